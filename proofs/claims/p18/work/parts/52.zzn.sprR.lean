theorem dX12_tryRow_0 : decode cX12_tryRow 0 = .ok (.iload 4, 2) := DX12_tryRow _ _ _ rfl
theorem dX12_tryRow_2 : decode cX12_tryRow 2 = .ok (.aload_n 0, 1) := DX12_tryRow _ _ _ rfl
theorem dX12_tryRow_3 : decode cX12_tryRow 3 = .ok (.getfield 13, 3) := DX12_tryRow _ _ _ rfl
theorem dX12_tryRow_6 : decode cX12_tryRow 6 = .ok (.aload_n 0, 1) := DX12_tryRow _ _ _ rfl
theorem dX12_tryRow_7 : decode cX12_tryRow 7 = .ok (.getfield 283, 3) := DX12_tryRow _ _ _ rfl
theorem dX12_tryRow_10 : decode cX12_tryRow 10 = .ok (.iaload, 1) := DX12_tryRow _ _ _ rfl
theorem dX12_tryRow_11 : decode cX12_tryRow 11 = .ok (.if_icmp .ne 62, 3) := DX12_tryRow _ _ _ rfl
theorem dX12_tryRow_73 : decode cX12_tryRow 73 = .ok (.bipush 99, 2) := DX12_tryRow _ _ _ rfl
theorem dX12_tryRow_75 : decode cX12_tryRow 75 = .ok (.istore 7, 2) := DX12_tryRow _ _ _ rfl
theorem dX12_tryRow_77 : decode cX12_tryRow 77 = .ok (.iload_n 2, 1) := DX12_tryRow _ _ _ rfl
theorem dX12_tryRow_78 : decode cX12_tryRow 78 = .ok (.iload 4, 2) := DX12_tryRow _ _ _ rfl
theorem dX12_tryRow_80 : decode cX12_tryRow 80 = .ok (.ishr, 1) := DX12_tryRow _ _ _ rfl
theorem dX12_tryRow_81 : decode cX12_tryRow 81 = .ok (.iconst 1, 1) := DX12_tryRow _ _ _ rfl
theorem dX12_tryRow_82 : decode cX12_tryRow 82 = .ok (.iand, 1) := DX12_tryRow _ _ _ rfl
theorem dX12_tryRow_83 : decode cX12_tryRow 83 = .ok (.iconst 1, 1) := DX12_tryRow _ _ _ rfl
theorem dX12_tryRow_84 : decode cX12_tryRow 84 = .ok (.if_icmp .ne 29, 3) := DX12_tryRow _ _ _ rfl
theorem dX12_tryRow_113 : decode cX12_tryRow 113 = .ok (.iconst 0, 1) := DX12_tryRow _ _ _ rfl
theorem dX12_tryRow_114 : decode cX12_tryRow 114 = .ok (.istore 8, 2) := DX12_tryRow _ _ _ rfl
theorem dX12_tryRow_116 : decode cX12_tryRow 116 = .ok (.iconst 0, 1) := DX12_tryRow _ _ _ rfl
theorem dX12_tryRow_117 : decode cX12_tryRow 117 = .ok (.istore 9, 2) := DX12_tryRow _ _ _ rfl
theorem dX12_tryRow_119 : decode cX12_tryRow 119 = .ok (.iload 9, 2) := DX12_tryRow _ _ _ rfl
theorem dX12_tryRow_121 : decode cX12_tryRow 121 = .ok (.aload_n 0, 1) := DX12_tryRow _ _ _ rfl
theorem dX12_tryRow_122 : decode cX12_tryRow 122 = .ok (.getfield 13, 3) := DX12_tryRow _ _ _ rfl
theorem dX12_tryRow_125 : decode cX12_tryRow 125 = .ok (.aload_n 0, 1) := DX12_tryRow _ _ _ rfl
theorem dX12_tryRow_126 : decode cX12_tryRow 126 = .ok (.getfield 283, 3) := DX12_tryRow _ _ _ rfl
theorem dX12_tryRow_129 : decode cX12_tryRow 129 = .ok (.iaload, 1) := DX12_tryRow _ _ _ rfl
theorem dX12_tryRow_130 : decode cX12_tryRow 130 = .ok (.if_icmp .ge 100, 3) := DX12_tryRow _ _ _ rfl
theorem dX12_tryRow_133 : decode cX12_tryRow 133 = .ok (.iload 8, 2) := DX12_tryRow _ _ _ rfl
theorem dX12_tryRow_135 : decode cX12_tryRow 135 = .ok (.ifCond .eq 95, 3) := DX12_tryRow _ _ _ rfl
theorem dX12_tryRow_230 : decode cX12_tryRow 230 = .ok (.iload 7, 2) := DX12_tryRow _ _ _ rfl
theorem dX12_tryRow_232 : decode cX12_tryRow 232 = .ok (.ifCond .ne 7, 3) := DX12_tryRow _ _ _ rfl
theorem dX12_tryRow_239 : decode cX12_tryRow 239 = .ok (.iload 7, 2) := DX12_tryRow _ _ _ rfl
theorem dX12_tryRow_241 : decode cX12_tryRow 241 = .ok (.aload_n 0, 1) := DX12_tryRow _ _ _ rfl
theorem dX12_tryRow_242 : decode cX12_tryRow 242 = .ok (.iload_n 1, 1) := DX12_tryRow _ _ _ rfl
theorem dX12_tryRow_243 : decode cX12_tryRow 243 = .ok (.iload_n 2, 1) := DX12_tryRow _ _ _ rfl
theorem dX12_tryRow_244 : decode cX12_tryRow 244 = .ok (.iload_n 3, 1) := DX12_tryRow _ _ _ rfl
theorem dX12_tryRow_245 : decode cX12_tryRow 245 = .ok (.iload 4, 2) := DX12_tryRow _ _ _ rfl
theorem dX12_tryRow_247 : decode cX12_tryRow 247 = .ok (.iconst 1, 1) := DX12_tryRow _ _ _ rfl
theorem dX12_tryRow_248 : decode cX12_tryRow 248 = .ok (.iadd, 1) := DX12_tryRow _ _ _ rfl
theorem dX12_tryRow_249 : decode cX12_tryRow 249 = .ok (.iload 5, 2) := DX12_tryRow _ _ _ rfl
theorem dX12_tryRow_251 : decode cX12_tryRow 251 = .ok (.iload 6, 2) := DX12_tryRow _ _ _ rfl
theorem dX12_tryRow_253 : decode cX12_tryRow 253 = .ok (.invokevirtual 301, 3) := DX12_tryRow _ _ _ rfl
theorem mm_X12_256 : (Cond.methodLink "NoonValleyModel" 296 Lib.Math.min.name) ∈ BW := bw (tb7 189 rfl) (by decide +kernel)
theorem dX12_tryRow_256 : decode cX12_tryRow 256 = .ok (.invokestatic 296, 3) := DX12_tryRow _ _ _ rfl
theorem dX12_tryRow_259 : decode cX12_tryRow 259 = .ok (.ireturn, 1) := DX12_tryRow _ _ _ rfl
theorem dX12_tryRow_87 : decode cX12_tryRow 87 = .ok (.aload_n 0, 1) := DX12_tryRow _ _ _ rfl
theorem dX12_tryRow_88 : decode cX12_tryRow 88 = .ok (.getfield 289, 3) := DX12_tryRow _ _ _ rfl
theorem dX12_tryRow_91 : decode cX12_tryRow 91 = .ok (.iload 4, 2) := DX12_tryRow _ _ _ rfl
theorem dX12_tryRow_93 : decode cX12_tryRow 93 = .ok (.ishr, 1) := DX12_tryRow _ _ _ rfl
theorem dX12_tryRow_94 : decode cX12_tryRow 94 = .ok (.iconst 1, 1) := DX12_tryRow _ _ _ rfl
theorem dX12_tryRow_95 : decode cX12_tryRow 95 = .ok (.iand, 1) := DX12_tryRow _ _ _ rfl
theorem dX12_tryRow_96 : decode cX12_tryRow 96 = .ok (.ifCond .ne 17, 3) := DX12_tryRow _ _ _ rfl
theorem dX12_tryRow_99 : decode cX12_tryRow 99 = .ok (.iload 5, 2) := DX12_tryRow _ _ _ rfl
theorem dX12_tryRow_101 : decode cX12_tryRow 101 = .ok (.iload 4, 2) := DX12_tryRow _ _ _ rfl
theorem dX12_tryRow_103 : decode cX12_tryRow 103 = .ok (.ishr, 1) := DX12_tryRow _ _ _ rfl
theorem dX12_tryRow_104 : decode cX12_tryRow 104 = .ok (.iconst 1, 1) := DX12_tryRow _ _ _ rfl
theorem dX12_tryRow_105 : decode cX12_tryRow 105 = .ok (.iand, 1) := DX12_tryRow _ _ _ rfl
theorem dX12_tryRow_106 : decode cX12_tryRow 106 = .ok (.ifCond .ne 7, 3) := DX12_tryRow _ _ _ rfl
theorem dX12_tryRow_109 : decode cX12_tryRow 109 = .ok (.iconst 1, 1) := DX12_tryRow _ _ _ rfl
theorem dX12_tryRow_110 : decode cX12_tryRow 110 = .ok (.goto 4, 3) := DX12_tryRow _ _ _ rfl
theorem dX12_tryRow_235 : decode cX12_tryRow 235 = .ok (.iconst 0, 1) := DX12_tryRow _ _ _ rfl
theorem dX12_tryRow_236 : decode cX12_tryRow 236 = .ok (.goto 23, 3) := DX12_tryRow _ _ _ rfl
theorem dX12_tryRow_138 : decode cX12_tryRow 138 = .ok (.iload 7, 2) := DX12_tryRow _ _ _ rfl
theorem dX12_tryRow_140 : decode cX12_tryRow 140 = .ok (.ifCond .le 90, 3) := DX12_tryRow _ _ _ rfl
theorem dX12_tryRow_143 : decode cX12_tryRow 143 = .ok (.iload 9, 2) := DX12_tryRow _ _ _ rfl
theorem dX12_tryRow_145 : decode cX12_tryRow 145 = .ok (.iload 4, 2) := DX12_tryRow _ _ _ rfl
theorem dX12_tryRow_147 : decode cX12_tryRow 147 = .ok (.if_icmp .eq 77, 3) := DX12_tryRow _ _ _ rfl
theorem dX12_tryRow_224 : decode cX12_tryRow 224 = .ok (.iinc 9 1, 3) := DX12_tryRow _ _ _ rfl
theorem dX12_tryRow_227 : decode cX12_tryRow 227 = .ok (.goto (-108), 3) := DX12_tryRow _ _ _ rfl
theorem dX12_tryRow_150 : decode cX12_tryRow 150 = .ok (.iload 5, 2) := DX12_tryRow _ _ _ rfl
theorem dX12_tryRow_152 : decode cX12_tryRow 152 = .ok (.aload_n 0, 1) := DX12_tryRow _ _ _ rfl
theorem dX12_tryRow_153 : decode cX12_tryRow 153 = .ok (.getfield 289, 3) := DX12_tryRow _ _ _ rfl
theorem dX12_tryRow_156 : decode cX12_tryRow 156 = .ok (.ior, 1) := DX12_tryRow _ _ _ rfl
theorem dX12_tryRow_157 : decode cX12_tryRow 157 = .ok (.iload_n 2, 1) := DX12_tryRow _ _ _ rfl
theorem dX12_tryRow_158 : decode cX12_tryRow 158 = .ok (.ior, 1) := DX12_tryRow _ _ _ rfl
theorem dX12_tryRow_159 : decode cX12_tryRow 159 = .ok (.iload 9, 2) := DX12_tryRow _ _ _ rfl
theorem dX12_tryRow_161 : decode cX12_tryRow 161 = .ok (.ishr, 1) := DX12_tryRow _ _ _ rfl
theorem dX12_tryRow_162 : decode cX12_tryRow 162 = .ok (.iconst 1, 1) := DX12_tryRow _ _ _ rfl
theorem dX12_tryRow_163 : decode cX12_tryRow 163 = .ok (.iand, 1) := DX12_tryRow _ _ _ rfl
theorem dX12_tryRow_164 : decode cX12_tryRow 164 = .ok (.iconst 1, 1) := DX12_tryRow _ _ _ rfl
theorem dX12_tryRow_165 : decode cX12_tryRow 165 = .ok (.if_icmp .eq 59, 3) := DX12_tryRow _ _ _ rfl
theorem dX12_tryRow_168 : decode cX12_tryRow 168 = .ok (.aload_n 0, 1) := DX12_tryRow _ _ _ rfl
theorem dX12_tryRow_169 : decode cX12_tryRow 169 = .ok (.aload_n 0, 1) := DX12_tryRow _ _ _ rfl
theorem dX12_tryRow_170 : decode cX12_tryRow 170 = .ok (.getfield 283, 3) := DX12_tryRow _ _ _ rfl
theorem dX12_tryRow_173 : decode cX12_tryRow 173 = .ok (.iload 4, 2) := DX12_tryRow _ _ _ rfl
theorem dX12_tryRow_175 : decode cX12_tryRow 175 = .ok (.iload 9, 2) := DX12_tryRow _ _ _ rfl
theorem dX12_tryRow_177 : decode cX12_tryRow 177 = .ok (.iload_n 1, 1) := DX12_tryRow _ _ _ rfl
theorem dX12_tryRow_178 : decode cX12_tryRow 178 = .ok (.invokevirtual 240, 3) := DX12_tryRow _ _ _ rfl
theorem dX12_tryRow_181 : decode cX12_tryRow 181 = .ok (.ifCond .ne 6, 3) := DX12_tryRow _ _ _ rfl
theorem dX12_tryRow_187 : decode cX12_tryRow 187 = .ok (.iload 7, 2) := DX12_tryRow _ _ _ rfl
theorem dX12_tryRow_189 : decode cX12_tryRow 189 = .ok (.aload_n 0, 1) := DX12_tryRow _ _ _ rfl
theorem dX12_tryRow_190 : decode cX12_tryRow 190 = .ok (.iload_n 1, 1) := DX12_tryRow _ _ _ rfl
theorem dX12_tryRow_191 : decode cX12_tryRow 191 = .ok (.iload_n 2, 1) := DX12_tryRow _ _ _ rfl
theorem dX12_tryRow_192 : decode cX12_tryRow 192 = .ok (.iload_n 3, 1) := DX12_tryRow _ _ _ rfl
theorem dX12_tryRow_193 : decode cX12_tryRow 193 = .ok (.iload 4, 2) := DX12_tryRow _ _ _ rfl
theorem dX12_tryRow_195 : decode cX12_tryRow 195 = .ok (.iconst 1, 1) := DX12_tryRow _ _ _ rfl
theorem dX12_tryRow_196 : decode cX12_tryRow 196 = .ok (.iadd, 1) := DX12_tryRow _ _ _ rfl
theorem dX12_tryRow_197 : decode cX12_tryRow 197 = .ok (.iload 5, 2) := DX12_tryRow _ _ _ rfl
theorem dX12_tryRow_199 : decode cX12_tryRow 199 = .ok (.iconst 1, 1) := DX12_tryRow _ _ _ rfl
theorem dX12_tryRow_200 : decode cX12_tryRow 200 = .ok (.iload 4, 2) := DX12_tryRow _ _ _ rfl
theorem dX12_tryRow_202 : decode cX12_tryRow 202 = .ok (.ishl, 1) := DX12_tryRow _ _ _ rfl
theorem dX12_tryRow_203 : decode cX12_tryRow 203 = .ok (.ior, 1) := DX12_tryRow _ _ _ rfl
theorem dX12_tryRow_204 : decode cX12_tryRow 204 = .ok (.iconst 1, 1) := DX12_tryRow _ _ _ rfl
theorem dX12_tryRow_205 : decode cX12_tryRow 205 = .ok (.iload 9, 2) := DX12_tryRow _ _ _ rfl
theorem dX12_tryRow_207 : decode cX12_tryRow 207 = .ok (.ishl, 1) := DX12_tryRow _ _ _ rfl
theorem dX12_tryRow_208 : decode cX12_tryRow 208 = .ok (.ior, 1) := DX12_tryRow _ _ _ rfl
theorem dX12_tryRow_209 : decode cX12_tryRow 209 = .ok (.iload 6, 2) := DX12_tryRow _ _ _ rfl
theorem dX12_tryRow_211 : decode cX12_tryRow 211 = .ok (.iconst 1, 1) := DX12_tryRow _ _ _ rfl
theorem dX12_tryRow_212 : decode cX12_tryRow 212 = .ok (.iload 9, 2) := DX12_tryRow _ _ _ rfl
theorem dX12_tryRow_214 : decode cX12_tryRow 214 = .ok (.ishl, 1) := DX12_tryRow _ _ _ rfl
theorem dX12_tryRow_215 : decode cX12_tryRow 215 = .ok (.ior, 1) := DX12_tryRow _ _ _ rfl
theorem dX12_tryRow_216 : decode cX12_tryRow 216 = .ok (.invokevirtual 301, 3) := DX12_tryRow _ _ _ rfl
theorem mm_X12_219 : (Cond.methodLink "NoonValleyModel" 296 Lib.Math.min.name) ∈ BW := bw (tb7 189 rfl) (by decide +kernel)
theorem dX12_tryRow_219 : decode cX12_tryRow 219 = .ok (.invokestatic 296, 3) := DX12_tryRow _ _ _ rfl
theorem dX12_tryRow_222 : decode cX12_tryRow 222 = .ok (.istore 7, 2) := DX12_tryRow _ _ _ rfl
theorem dX12_tryRow_184 : decode cX12_tryRow 184 = .ok (.goto 40, 3) := DX12_tryRow _ _ _ rfl
theorem dX12_tryRow_14 : decode cX12_tryRow 14 = .ok (.iload 6, 2) := DX12_tryRow _ _ _ rfl
theorem dX12_tryRow_16 : decode cX12_tryRow 16 = .ok (.iload_n 2, 1) := DX12_tryRow _ _ _ rfl
theorem dX12_tryRow_17 : decode cX12_tryRow 17 = .ok (.iconst (-1), 1) := DX12_tryRow _ _ _ rfl
theorem dX12_tryRow_18 : decode cX12_tryRow 18 = .ok (.ixor, 1) := DX12_tryRow _ _ _ rfl
theorem dX12_tryRow_19 : decode cX12_tryRow 19 = .ok (.iand, 1) := DX12_tryRow _ _ _ rfl
theorem dX12_tryRow_20 : decode cX12_tryRow 20 = .ok (.istore 7, 2) := DX12_tryRow _ _ _ rfl
theorem dX12_tryRow_22 : decode cX12_tryRow 22 = .ok (.iload 7, 2) := DX12_tryRow _ _ _ rfl
theorem dX12_tryRow_24 : decode cX12_tryRow 24 = .ok (.aload_n 0, 1) := DX12_tryRow _ _ _ rfl
theorem dX12_tryRow_25 : decode cX12_tryRow 25 = .ok (.getfield 20, 3) := DX12_tryRow _ _ _ rfl
theorem dX12_tryRow_28 : decode cX12_tryRow 28 = .ok (.aload_n 0, 1) := DX12_tryRow _ _ _ rfl
theorem dX12_tryRow_29 : decode cX12_tryRow 29 = .ok (.getfield 283, 3) := DX12_tryRow _ _ _ rfl
theorem dX12_tryRow_32 : decode cX12_tryRow 32 = .ok (.iaload, 1) := DX12_tryRow _ _ _ rfl
theorem dX12_tryRow_33 : decode cX12_tryRow 33 = .ok (.iconst (-1), 1) := DX12_tryRow _ _ _ rfl
theorem dX12_tryRow_34 : decode cX12_tryRow 34 = .ok (.ixor, 1) := DX12_tryRow _ _ _ rfl
theorem dX12_tryRow_35 : decode cX12_tryRow 35 = .ok (.iload_n 3, 1) := DX12_tryRow _ _ _ rfl
theorem dX12_tryRow_36 : decode cX12_tryRow 36 = .ok (.ior, 1) := DX12_tryRow _ _ _ rfl
theorem dX12_tryRow_37 : decode cX12_tryRow 37 = .ok (.iand, 1) := DX12_tryRow _ _ _ rfl
theorem dX12_tryRow_38 : decode cX12_tryRow 38 = .ok (.istore 8, 2) := DX12_tryRow _ _ _ rfl
theorem dX12_tryRow_40 : decode cX12_tryRow 40 = .ok (.aload_n 0, 1) := DX12_tryRow _ _ _ rfl
theorem dX12_tryRow_41 : decode cX12_tryRow 41 = .ok (.iload_n 1, 1) := DX12_tryRow _ _ _ rfl
theorem dX12_tryRow_42 : decode cX12_tryRow 42 = .ok (.iconst 1, 1) := DX12_tryRow _ _ _ rfl
theorem dX12_tryRow_43 : decode cX12_tryRow 43 = .ok (.iadd, 1) := DX12_tryRow _ _ _ rfl
theorem dX12_tryRow_44 : decode cX12_tryRow 44 = .ok (.iload_n 2, 1) := DX12_tryRow _ _ _ rfl
theorem dX12_tryRow_45 : decode cX12_tryRow 45 = .ok (.iload 8, 2) := DX12_tryRow _ _ _ rfl
theorem dX12_tryRow_47 : decode cX12_tryRow 47 = .ok (.ior, 1) := DX12_tryRow _ _ _ rfl
theorem dX12_tryRow_48 : decode cX12_tryRow 48 = .ok (.iload_n 3, 1) := DX12_tryRow _ _ _ rfl
theorem dX12_tryRow_49 : decode cX12_tryRow 49 = .ok (.iload 7, 2) := DX12_tryRow _ _ _ rfl
theorem dX12_tryRow_51 : decode cX12_tryRow 51 = .ok (.ior, 1) := DX12_tryRow _ _ _ rfl
theorem dX12_tryRow_52 : decode cX12_tryRow 52 = .ok (.aload_n 0, 1) := DX12_tryRow _ _ _ rfl
theorem dX12_tryRow_53 : decode cX12_tryRow 53 = .ok (.getfield 20, 3) := DX12_tryRow _ _ _ rfl
theorem dX12_tryRow_56 : decode cX12_tryRow 56 = .ok (.aload_n 0, 1) := DX12_tryRow _ _ _ rfl
theorem dX12_tryRow_57 : decode cX12_tryRow 57 = .ok (.getfield 283, 3) := DX12_tryRow _ _ _ rfl
theorem dX12_tryRow_60 : decode cX12_tryRow 60 = .ok (.iaload, 1) := DX12_tryRow _ _ _ rfl
theorem dX12_tryRow_61 : decode cX12_tryRow 61 = .ok (.iand, 1) := DX12_tryRow _ _ _ rfl
theorem dX12_tryRow_62 : decode cX12_tryRow 62 = .ok (.iload_n 2, 1) := DX12_tryRow _ _ _ rfl
theorem dX12_tryRow_63 : decode cX12_tryRow 63 = .ok (.iload 8, 2) := DX12_tryRow _ _ _ rfl
theorem dX12_tryRow_65 : decode cX12_tryRow 65 = .ok (.ior, 1) := DX12_tryRow _ _ _ rfl
theorem dX12_tryRow_66 : decode cX12_tryRow 66 = .ok (.iconst (-1), 1) := DX12_tryRow _ _ _ rfl
theorem dX12_tryRow_67 : decode cX12_tryRow 67 = .ok (.ixor, 1) := DX12_tryRow _ _ _ rfl
theorem dX12_tryRow_68 : decode cX12_tryRow 68 = .ok (.iand, 1) := DX12_tryRow _ _ _ rfl
theorem dX12_tryRow_69 : decode cX12_tryRow 69 = .ok (.invokevirtual 305, 3) := DX12_tryRow _ _ _ rfl
theorem dX12_tryRow_72 : decode cX12_tryRow 72 = .ok (.ireturn, 1) := DX12_tryRow _ _ _ rfl
theorem dX12_needed_0 : decode cX12_needed 0 = .ok (.aload_n 0, 1) := DX12_needed _ _ _ rfl
theorem dX12_needed_1 : decode cX12_needed 1 = .ok (.getfield 286, 3) := DX12_needed _ _ _ rfl
theorem dX12_needed_4 : decode cX12_needed 4 = .ok (.iload_n 2, 1) := DX12_needed _ _ _ rfl
theorem dX12_needed_5 : decode cX12_needed 5 = .ok (.iconst (-1), 1) := DX12_needed _ _ _ rfl
theorem dX12_needed_6 : decode cX12_needed 6 = .ok (.ixor, 1) := DX12_needed _ _ _ rfl
theorem dX12_needed_7 : decode cX12_needed 7 = .ok (.iand, 1) := DX12_needed _ _ _ rfl
theorem dX12_needed_8 : decode cX12_needed 8 = .ok (.ifCond .ne 5, 3) := DX12_needed _ _ _ rfl
theorem dX12_needed_13 : decode cX12_needed 13 = .ok (.iload_n 1, 1) := DX12_needed _ _ _ rfl
theorem dX12_needed_14 : decode cX12_needed 14 = .ok (.bipush 24, 2) := DX12_needed _ _ _ rfl
theorem dX12_needed_16 : decode cX12_needed 16 = .ok (.if_icmp .le 6, 3) := DX12_needed _ _ _ rfl
theorem dX12_needed_19 : decode cX12_needed 19 = .ok (.bipush 99, 2) := DX12_needed _ _ _ rfl
theorem dX12_needed_21 : decode cX12_needed 21 = .ok (.ireturn, 1) := DX12_needed _ _ _ rfl
theorem dX12_needed_11 : decode cX12_needed 11 = .ok (.iconst 0, 1) := DX12_needed _ _ _ rfl
theorem dX12_needed_12 : decode cX12_needed 12 = .ok (.ireturn, 1) := DX12_needed _ _ _ rfl
theorem dX12_rowsLeast_0 : decode cX12_rowsLeast 0 = .ok (.aload_n 0, 1) := DX12_rowsLeast _ _ _ rfl
theorem dX12_rowsLeast_1 : decode cX12_rowsLeast 1 = .ok (.iload_n 1, 1) := DX12_rowsLeast _ _ _ rfl
theorem dX12_rowsLeast_2 : decode cX12_rowsLeast 2 = .ok (.iload_n 2, 1) := DX12_rowsLeast _ _ _ rfl
theorem dX12_rowsLeast_3 : decode cX12_rowsLeast 3 = .ok (.iload_n 3, 1) := DX12_rowsLeast _ _ _ rfl
theorem dX12_rowsLeast_4 : decode cX12_rowsLeast 4 = .ok (.iconst 0, 1) := DX12_rowsLeast _ _ _ rfl
theorem dX12_rowsLeast_5 : decode cX12_rowsLeast 5 = .ok (.iconst 0, 1) := DX12_rowsLeast _ _ _ rfl
theorem dX12_rowsLeast_6 : decode cX12_rowsLeast 6 = .ok (.iconst 0, 1) := DX12_rowsLeast _ _ _ rfl
theorem dX12_rowsLeast_7 : decode cX12_rowsLeast 7 = .ok (.invokevirtual 301, 3) := DX12_rowsLeast _ _ _ rfl
theorem dX12_rowsLeast_10 : decode cX12_rowsLeast 10 = .ok (.ireturn, 1) := DX12_rowsLeast _ _ _ rfl
theorem dX12_needed_22 : decode cX12_needed 22 = .ok (.sipush 16384, 3) := DX12_needed _ _ _ rfl
theorem dX12_needed_25 : decode cX12_needed 25 = .ok (.iload_n 1, 1) := DX12_needed _ _ _ rfl
theorem dX12_needed_26 : decode cX12_needed 26 = .ok (.imul, 1) := DX12_needed _ _ _ rfl
theorem dX12_needed_27 : decode cX12_needed 27 = .ok (.sipush 128, 3) := DX12_needed _ _ _ rfl
theorem dX12_needed_30 : decode cX12_needed 30 = .ok (.iload_n 2, 1) := DX12_needed _ _ _ rfl
theorem dX12_needed_31 : decode cX12_needed 31 = .ok (.imul, 1) := DX12_needed _ _ _ rfl
theorem dX12_needed_32 : decode cX12_needed 32 = .ok (.iadd, 1) := DX12_needed _ _ _ rfl
theorem dX12_needed_33 : decode cX12_needed 33 = .ok (.iload_n 3, 1) := DX12_needed _ _ _ rfl
theorem dX12_needed_34 : decode cX12_needed 34 = .ok (.iadd, 1) := DX12_needed _ _ _ rfl
theorem dX12_needed_35 : decode cX12_needed 35 = .ok (.istore 4, 2) := DX12_needed _ _ _ rfl
theorem dX12_needed_37 : decode cX12_needed 37 = .ok (.aload_n 0, 1) := DX12_needed _ _ _ rfl
theorem dX12_needed_38 : decode cX12_needed 38 = .ok (.getfield 95, 3) := DX12_needed _ _ _ rfl
theorem dX12_needed_41 : decode cX12_needed 41 = .ok (.iload 4, 2) := DX12_needed _ _ _ rfl
theorem dX12_needed_43 : decode cX12_needed 43 = .ok (.baload, 1) := DX12_needed _ _ _ rfl
theorem dX12_needed_44 : decode cX12_needed 44 = .ok (.ifCond .eq 11, 3) := DX12_needed _ _ _ rfl
theorem dX12_needed_55 : decode cX12_needed 55 = .ok (.bipush 99, 2) := DX12_needed _ _ _ rfl
theorem dX12_needed_57 : decode cX12_needed 57 = .ok (.istore 5, 2) := DX12_needed _ _ _ rfl
theorem dX12_needed_59 : decode cX12_needed 59 = .ok (.aload_n 0, 1) := DX12_needed _ _ _ rfl
theorem dX12_needed_60 : decode cX12_needed 60 = .ok (.iload_n 1, 1) := DX12_needed _ _ _ rfl
theorem dX12_needed_61 : decode cX12_needed 61 = .ok (.iload_n 2, 1) := DX12_needed _ _ _ rfl
theorem dX12_needed_62 : decode cX12_needed 62 = .ok (.iload_n 3, 1) := DX12_needed _ _ _ rfl
theorem dX12_needed_63 : decode cX12_needed 63 = .ok (.invokevirtual 292, 3) := DX12_needed _ _ _ rfl
theorem dX12_needed_66 : decode cX12_needed 66 = .ok (.istore 6, 2) := DX12_needed _ _ _ rfl
theorem dX12_needed_68 : decode cX12_needed 68 = .ok (.iload 6, 2) := DX12_needed _ _ _ rfl
theorem dX12_needed_70 : decode cX12_needed 70 = .ok (.bipush 99, 2) := DX12_needed _ _ _ rfl
theorem dX12_needed_72 : decode cX12_needed 72 = .ok (.if_icmp .ge 9, 3) := DX12_needed _ _ _ rfl
theorem dX12_needed_81 : decode cX12_needed 81 = .ok (.aload_n 0, 1) := DX12_needed _ _ _ rfl
theorem dX12_needed_82 : decode cX12_needed 82 = .ok (.getfield 95, 3) := DX12_needed _ _ _ rfl
theorem dX12_needed_85 : decode cX12_needed 85 = .ok (.iload 4, 2) := DX12_needed _ _ _ rfl
theorem dX12_needed_87 : decode cX12_needed 87 = .ok (.bipush 99, 2) := DX12_needed _ _ _ rfl
theorem dX12_needed_89 : decode cX12_needed 89 = .ok (.iload 5, 2) := DX12_needed _ _ _ rfl
theorem mm_X12_91 : (Cond.methodLink "NoonValleyModel" 296 Lib.Math.min.name) ∈ BW := bw (tb7 189 rfl) (by decide +kernel)
theorem dX12_needed_91 : decode cX12_needed 91 = .ok (.invokestatic 296, 3) := DX12_needed _ _ _ rfl
theorem dX12_needed_94 : decode cX12_needed 94 = .ok (.i2b, 1) := DX12_needed _ _ _ rfl
theorem dX12_needed_95 : decode cX12_needed 95 = .ok (.bastore, 1) := DX12_needed _ _ _ rfl
theorem dX12_needed_96 : decode cX12_needed 96 = .ok (.aload_n 0, 1) := DX12_needed _ _ _ rfl
theorem dX12_needed_97 : decode cX12_needed 97 = .ok (.getfield 95, 3) := DX12_needed _ _ _ rfl
theorem dX12_needed_100 : decode cX12_needed 100 = .ok (.iload 4, 2) := DX12_needed _ _ _ rfl
theorem dX12_needed_102 : decode cX12_needed 102 = .ok (.baload, 1) := DX12_needed _ _ _ rfl
theorem dX12_needed_103 : decode cX12_needed 103 = .ok (.ireturn, 1) := DX12_needed _ _ _ rfl
theorem dX12_needed_75 : decode cX12_needed 75 = .ok (.iload 6, 2) := DX12_needed _ _ _ rfl
theorem dX12_needed_77 : decode cX12_needed 77 = .ok (.iconst 1, 1) := DX12_needed _ _ _ rfl
theorem dX12_needed_78 : decode cX12_needed 78 = .ok (.iadd, 1) := DX12_needed _ _ _ rfl
theorem dX12_needed_79 : decode cX12_needed 79 = .ok (.istore 5, 2) := DX12_needed _ _ _ rfl
theorem dX12_needed_47 : decode cX12_needed 47 = .ok (.aload_n 0, 1) := DX12_needed _ _ _ rfl
theorem dX12_needed_48 : decode cX12_needed 48 = .ok (.getfield 95, 3) := DX12_needed _ _ _ rfl
theorem dX12_needed_51 : decode cX12_needed 51 = .ok (.iload 4, 2) := DX12_needed _ _ _ rfl
theorem dX12_needed_53 : decode cX12_needed 53 = .ok (.baload, 1) := DX12_needed _ _ _ rfl
theorem dX12_needed_54 : decode cX12_needed 54 = .ok (.ireturn, 1) := DX12_needed _ _ _ rfl
theorem dX12_ask_0 : decode cX12_ask 0 = .ok (.aload_n 0, 1) := DX12_ask _ _ _ rfl
theorem dX12_ask_1 : decode cX12_ask 1 = .ok (.iload_n 1, 1) := DX12_ask _ _ _ rfl
theorem dX12_ask_2 : decode cX12_ask 2 = .ok (.putfield 283, 3) := DX12_ask _ _ _ rfl
theorem dX12_ask_5 : decode cX12_ask 5 = .ok (.aload_n 0, 1) := DX12_ask _ _ _ rfl
theorem dX12_ask_6 : decode cX12_ask 6 = .ok (.aload_n 0, 1) := DX12_ask _ _ _ rfl
theorem dX12_ask_7 : decode cX12_ask 7 = .ok (.getfield 26, 3) := DX12_ask _ _ _ rfl
theorem dX12_ask_10 : decode cX12_ask 10 = .ok (.iconst 4, 1) := DX12_ask _ _ _ rfl
theorem dX12_ask_11 : decode cX12_ask 11 = .ok (.iload_n 1, 1) := DX12_ask _ _ _ rfl
theorem dX12_ask_12 : decode cX12_ask 12 = .ok (.imul, 1) := DX12_ask _ _ _ rfl
theorem dX12_ask_13 : decode cX12_ask 13 = .ok (.iload_n 2, 1) := DX12_ask _ _ _ rfl
theorem dX12_ask_14 : decode cX12_ask 14 = .ok (.iadd, 1) := DX12_ask _ _ _ rfl
theorem dX12_ask_15 : decode cX12_ask 15 = .ok (.iaload, 1) := DX12_ask _ _ _ rfl
theorem dX12_ask_16 : decode cX12_ask 16 = .ok (.putfield 286, 3) := DX12_ask _ _ _ rfl
theorem dX12_ask_19 : decode cX12_ask 19 = .ok (.aload_n 0, 1) := DX12_ask _ _ _ rfl
theorem dX12_ask_20 : decode cX12_ask 20 = .ok (.aload_n 0, 1) := DX12_ask _ _ _ rfl
theorem dX12_ask_21 : decode cX12_ask 21 = .ok (.getfield 29, 3) := DX12_ask _ _ _ rfl
theorem dX12_ask_24 : decode cX12_ask 24 = .ok (.iconst 4, 1) := DX12_ask _ _ _ rfl
theorem dX12_ask_25 : decode cX12_ask 25 = .ok (.iload_n 1, 1) := DX12_ask _ _ _ rfl
theorem dX12_ask_26 : decode cX12_ask 26 = .ok (.imul, 1) := DX12_ask _ _ _ rfl
theorem dX12_ask_27 : decode cX12_ask 27 = .ok (.iload_n 2, 1) := DX12_ask _ _ _ rfl
theorem dX12_ask_28 : decode cX12_ask 28 = .ok (.iadd, 1) := DX12_ask _ _ _ rfl
theorem dX12_ask_29 : decode cX12_ask 29 = .ok (.iaload, 1) := DX12_ask _ _ _ rfl
theorem dX12_ask_30 : decode cX12_ask 30 = .ok (.putfield 289, 3) := DX12_ask _ _ _ rfl
theorem dX12_ask_33 : decode cX12_ask 33 = .ok (.iconst 0, 1) := DX12_ask _ _ _ rfl
theorem dX12_ask_34 : decode cX12_ask 34 = .ok (.istore_n 3, 1) := DX12_ask _ _ _ rfl
theorem dX12_ask_35 : decode cX12_ask 35 = .ok (.iload_n 3, 1) := DX12_ask _ _ _ rfl
theorem dX12_ask_36 : decode cX12_ask 36 = .ok (.aload_n 0, 1) := DX12_ask _ _ _ rfl
theorem dX12_ask_37 : decode cX12_ask 37 = .ok (.getfield 95, 3) := DX12_ask _ _ _ rfl
theorem dX12_ask_40 : decode cX12_ask 40 = .ok (.arraylength, 1) := DX12_ask _ _ _ rfl
theorem dX12_ask_41 : decode cX12_ask 41 = .ok (.if_icmp .ge 16, 3) := DX12_ask _ _ _ rfl
theorem dX12_ask_57 : decode cX12_ask 57 = .ok (.return_, 1) := DX12_ask _ _ _ rfl
theorem dX12_ask_44 : decode cX12_ask 44 = .ok (.aload_n 0, 1) := DX12_ask _ _ _ rfl
theorem dX12_ask_45 : decode cX12_ask 45 = .ok (.getfield 95, 3) := DX12_ask _ _ _ rfl
theorem dX12_ask_48 : decode cX12_ask 48 = .ok (.iload_n 3, 1) := DX12_ask _ _ _ rfl
theorem dX12_ask_49 : decode cX12_ask 49 = .ok (.iconst 0, 1) := DX12_ask _ _ _ rfl
theorem dX12_ask_50 : decode cX12_ask 50 = .ok (.bastore, 1) := DX12_ask _ _ _ rfl
theorem dX12_ask_51 : decode cX12_ask 51 = .ok (.iinc 3 1, 3) := DX12_ask _ _ _ rfl
theorem dX12_ask_54 : decode cX12_ask 54 = .ok (.goto (-19), 3) := DX12_ask _ _ _ rfl
theorem dX12_leastFrom_0 : decode cX12_leastFrom 0 = .ok (.aload_n 0, 1) := DX12_leastFrom _ _ _ rfl
theorem dX12_leastFrom_1 : decode cX12_leastFrom 1 = .ok (.iload_n 1, 1) := DX12_leastFrom _ _ _ rfl
theorem dX12_leastFrom_2 : decode cX12_leastFrom 2 = .ok (.iload_n 2, 1) := DX12_leastFrom _ _ _ rfl
theorem dX12_leastFrom_3 : decode cX12_leastFrom 3 = .ok (.invokevirtual 311, 3) := DX12_leastFrom _ _ _ rfl
theorem dX12_leastFrom_6 : decode cX12_leastFrom 6 = .ok (.aload_n 0, 1) := DX12_leastFrom _ _ _ rfl
theorem dX12_leastFrom_7 : decode cX12_leastFrom 7 = .ok (.iload_n 3, 1) := DX12_leastFrom _ _ _ rfl
theorem dX12_leastFrom_8 : decode cX12_leastFrom 8 = .ok (.aload_n 0, 1) := DX12_leastFrom _ _ _ rfl
theorem dX12_leastFrom_9 : decode cX12_leastFrom 9 = .ok (.getfield 23, 3) := DX12_leastFrom _ _ _ rfl
theorem dX12_leastFrom_12 : decode cX12_leastFrom 12 = .ok (.iconst 4, 1) := DX12_leastFrom _ _ _ rfl
theorem dX12_leastFrom_13 : decode cX12_leastFrom 13 = .ok (.iload_n 1, 1) := DX12_leastFrom _ _ _ rfl
theorem dX12_leastFrom_14 : decode cX12_leastFrom 14 = .ok (.imul, 1) := DX12_leastFrom _ _ _ rfl
theorem dX12_leastFrom_15 : decode cX12_leastFrom 15 = .ok (.iload_n 2, 1) := DX12_leastFrom _ _ _ rfl
theorem dX12_leastFrom_16 : decode cX12_leastFrom 16 = .ok (.iadd, 1) := DX12_leastFrom _ _ _ rfl
theorem dX12_leastFrom_17 : decode cX12_leastFrom 17 = .ok (.iaload, 1) := DX12_leastFrom _ _ _ rfl
theorem dX12_leastFrom_18 : decode cX12_leastFrom 18 = .ok (.iconst 0, 1) := DX12_leastFrom _ _ _ rfl
theorem dX12_leastFrom_19 : decode cX12_leastFrom 19 = .ok (.invokevirtual 305, 3) := DX12_leastFrom _ _ _ rfl
theorem dX12_leastFrom_22 : decode cX12_leastFrom 22 = .ok (.ireturn, 1) := DX12_leastFrom _ _ _ rfl
abbrev NDT : Type := Int32 → Int32 → (Nat → Int32) → Int32 × (Nat → Int32)
abbrev RTT : Type := Nat → Int32 → Int32 → (Nat → Int32) → Int32 × (Nat → Int32)
theorem MetI.up {l : Launch} {g : GG} {y : MethodName} {cc : ByteArray} {n : Nat} {r : Option FieldType} {d d' : Nat} {As : List Value} {ws : va_W} {post : Int32 → va_W → Prop} (h : MetI l g y cc n r d 0 0 As ws post) (hd : d ≤ d') : MetI l g y cc n r d' 0 0 As ws post := fun sz => h.grow hd (Nat.le_refl _) (Nat.le_refl _) sz
def L1_X12_tryRow (an : Int32) (pe : Nat) (kw : Int32) (fj : Nat) (bu : Int32) (ca : Int32) (MC : Nat → Nat → Int32) (R : RTT) : Nat → Nat → Int32 → (Nat → Int32) → Int32 × (Nat → Int32)
  | 0, _, _, _ => (0, fun _ => 0)
  | m_ + 1, j1, x7_1, fb34_1 => if nI pe ≤ nI j1 then (if x7_1 = 0 then (((0 : Int32), fb34_1)) else ((mn2 x7_1 ((R (fj + 1) bu ca fb34_1).1), ((R (fj + 1) bu ca fb34_1).2)))) else (if x7_1 ≤ 0 then (if x7_1 = 0 then (((0 : Int32), fb34_1)) else ((mn2 x7_1 ((R (fj + 1) bu ca fb34_1).1), ((R (fj + 1) bu ca fb34_1).2)))) else (if nI j1 = nI fj then (L1_X12_tryRow an pe kw fj bu ca MC R m_ (j1 + 1) x7_1 fb34_1) else (if (((bu ||| an) ||| kw) >>> ((nI j1) &&& 31)) &&& (1 : Int32) = 1 then (L1_X12_tryRow an pe kw fj bu ca MC R m_ (j1 + 1) x7_1 fb34_1) else (if MC fj j1 = 0 then (L1_X12_tryRow an pe kw fj bu ca MC R m_ (j1 + 1) x7_1 fb34_1) else (L1_X12_tryRow an pe kw fj bu ca MC R m_ (j1 + 1) (mn2 x7_1 ((R (fj + 1) ((bu ||| ((1 : Int32) <<< ((nI fj) &&& 31))) ||| ((1 : Int32) <<< ((nI j1) &&& 31))) (ca ||| ((1 : Int32) <<< ((nI j1) &&& 31))) fb34_1).1)) ((R (fj + 1) ((bu ||| ((1 : Int32) <<< ((nI fj) &&& 31))) ||| ((1 : Int32) <<< ((nI j1) &&& 31))) (ca ||| ((1 : Int32) <<< ((nI j1) &&& 31))) fb34_1).2))))))
def F_X12_tryRow (an : Int32) (rD : Nat → Int32) (gN : Nat → Int32) (i : Nat) (pe : Nat) (kw : Int32) (oz : Int32) (fj : Nat) (bu : Int32) (ca : Int32) (MC : Nat → Nat → Int32) (ND : NDT) (R : RTT) : Int32 × (Nat → Int32) := if nI fj = nI pe then (((ND (kw ||| ((ca &&& (kw ^^^ (-1 : Int32))) &&& (((rD i) ^^^ (-1 : Int32)) ||| oz))) (((oz ||| (ca &&& (kw ^^^ (-1 : Int32)))) &&& (rD i)) &&& ((kw ||| ((ca &&& (kw ^^^ (-1 : Int32))) &&& (((rD i) ^^^ (-1 : Int32)) ||| oz))) ^^^ (-1 : Int32))) gN).1, ((ND (kw ||| ((ca &&& (kw ^^^ (-1 : Int32))) &&& (((rD i) ^^^ (-1 : Int32)) ||| oz))) (((oz ||| (ca &&& (kw ^^^ (-1 : Int32)))) &&& (rD i)) &&& ((kw ||| ((ca &&& (kw ^^^ (-1 : Int32))) &&& (((rD i) ^^^ (-1 : Int32)) ||| oz))) ^^^ (-1 : Int32))) gN).2))) else (if (kw >>> ((nI fj) &&& 31)) &&& (1 : Int32) = 1 then (if (an >>> ((nI fj) &&& 31)) &&& (1 : Int32) = 0 then (if (bu >>> ((nI fj) &&& 31)) &&& (1 : Int32) = 0 then (L1_X12_tryRow an pe kw fj bu ca MC R (pe + 1) 0 (99 : Int32) gN) else ((mn2 (99 : Int32) ((R (fj + 1) bu ca gN).1), ((R (fj + 1) bu ca gN).2)))) else ((mn2 (99 : Int32) ((R (fj + 1) bu ca gN).1), ((R (fj + 1) bu ca gN).2)))) else ((mn2 (99 : Int32) ((R (fj + 1) bu ca gN).1), ((R (fj + 1) bu ca gN).2))))
set_option maxHeartbeats 4000000 in
set_option maxRecDepth 100000 in
theorem K_X12_tryRow (l : Launch) (g : GG) (h0 : Nat) (vs : List Value) (am : Int32) (an : Int32) (b6 : Nat) (rP : Nat → Int32) (b7 : Nat) (rL : Nat → Int32) (b8 : Nat) (rD : Nat → Int32) (b12 : Nat) (rA : Nat → Int32) (b13 : Nat) (rB : Nat → Int32) (b14 : Nat) (rF : Nat → Int32) (b15 : Nat) (rT : Nat → Int32) (b16 : Nat) (rW : Nat → Int32) (b17 : Nat) (rO : Nat → Int32) (b34 : Nat) (gN : Nat → Int32) (i : Nat) (lc : Nat) (pe : Nat) (mA : Int32) (mB : Int32) (h : Nat) (kw : Int32) (oz : Int32) (fj : Nat) (bu : Int32) (ca : Int32) (MC : Nat → Nat → Int32) (ND : NDT) (R : RTT) (dd : Nat) (hdd : 1 ≤ dd) (hlen : vs.length = 64) (h38_ : vs[38]? = some (.int am)) (h39_ : vs[39]? = some (.int an)) (h6_ : vs[6]? = some (.ref b6)) (h7_ : vs[7]? = some (.ref b7)) (h8_ : vs[8]? = some (.ref b8)) (h12_ : vs[12]? = some (.ref b12)) (h13_ : vs[13]? = some (.ref b13)) (h14_ : vs[14]? = some (.ref b14)) (h15_ : vs[15]? = some (.ref b15)) (h16_ : vs[16]? = some (.ref b16)) (h17_ : vs[17]? = some (.ref b17)) (h34_ : vs[34]? = some (.ref b34)) (hi : i < 11) (hlc : lc ≤ 12) (hL : rL i = nI lc) (hpe : pe ≤ 7) (hP : rP i = nI pe) (h37_ : vs[37]? = some (.int (nI i))) (h19_ : vs[19]? = some (.int mA)) (h20_ : vs[20]? = some (.int mB)) (hfj : fj ≤ pe) (hh : h ≤ 24) (hkw : s7 kw) (hoz : s7 oz) (hca : s7 ca) (hMC : ∀ a b : Nat, a < 7 → b < 7 → MetI l g yX12_mayCall cX12_mayCall 6 (some .boolean) 1 0 0 [.ref h0, .int (nI i), .int (nI a), .int (nI b), .int (nI h)] [(h0, .inr (12, vs)), (b7, .inl (g.2.1 1, 11, .inl rL)), (b12, .inl (g.2.1 1, 132, .inl rA)), (b13, .inl (g.2.1 1, 132, .inl rB)), (b14, .inl (g.2.1 1, 132, .inl rF)), (b15, .inl (g.2.1 1, 132, .inl rT)), (b16, .inl (g.2.1 1, 132, .inl rW)), (b17, .inl (g.2.1 3, 132, .inl rO))] (fun r u => r = MC a b ∧ u = [(h0, .inr (12, vs)), (b7, .inl (g.2.1 1, 11, .inl rL)), (b12, .inl (g.2.1 1, 132, .inl rA)), (b13, .inl (g.2.1 1, 132, .inl rB)), (b14, .inl (g.2.1 1, 132, .inl rF)), (b15, .inl (g.2.1 1, 132, .inl rT)), (b16, .inl (g.2.1 1, 132, .inl rW)), (b17, .inl (g.2.1 3, 132, .inl rO))])) (hnd : ∀ (N : Nat → Int32) (k o : Int32), s7 k → s7 o → MetI l g yX12_needed cX12_needed 7 (some .int) dd 0 0 [.ref h0, .int (nI (h + 1)), .int k, .int o] [(h0, .inr (12, vs)), (b6, .inl (g.2.1 1, 11, .inl rP)), (b7, .inl (g.2.1 1, 11, .inl rL)), (b8, .inl (g.2.1 1, 11, .inl rD)), (b12, .inl (g.2.1 1, 132, .inl rA)), (b13, .inl (g.2.1 1, 132, .inl rB)), (b14, .inl (g.2.1 1, 132, .inl rF)), (b15, .inl (g.2.1 1, 132, .inl rT)), (b16, .inl (g.2.1 1, 132, .inl rW)), (b17, .inl (g.2.1 3, 132, .inl rO)), (b34, .inl (g.2.1 0, 425984, .inl N))] (fun r u => r = (ND k o N).1 ∧ u = [(h0, .inr (12, vs)), (b6, .inl (g.2.1 1, 11, .inl rP)), (b7, .inl (g.2.1 1, 11, .inl rL)), (b8, .inl (g.2.1 1, 11, .inl rD)), (b12, .inl (g.2.1 1, 132, .inl rA)), (b13, .inl (g.2.1 1, 132, .inl rB)), (b14, .inl (g.2.1 1, 132, .inl rF)), (b15, .inl (g.2.1 1, 132, .inl rT)), (b16, .inl (g.2.1 1, 132, .inl rW)), (b17, .inl (g.2.1 3, 132, .inl rO)), (b34, .inl (g.2.1 0, 425984, .inl ((ND k o N).2)))])) (hrec : fj < pe → ∀ (N : Nat → Int32) (bu ca : Int32), s7 ca → MetI l g yX12_tryRow cX12_tryRow 10 (some .int) dd 0 0 [.ref h0, .int (nI h), .int kw, .int oz, .int (nI (fj + 1)), .int bu, .int ca] [(h0, .inr (12, vs)), (b6, .inl (g.2.1 1, 11, .inl rP)), (b7, .inl (g.2.1 1, 11, .inl rL)), (b8, .inl (g.2.1 1, 11, .inl rD)), (b12, .inl (g.2.1 1, 132, .inl rA)), (b13, .inl (g.2.1 1, 132, .inl rB)), (b14, .inl (g.2.1 1, 132, .inl rF)), (b15, .inl (g.2.1 1, 132, .inl rT)), (b16, .inl (g.2.1 1, 132, .inl rW)), (b17, .inl (g.2.1 3, 132, .inl rO)), (b34, .inl (g.2.1 0, 425984, .inl N))] (fun r u => r = (R (fj + 1) bu ca N).1 ∧ u = [(h0, .inr (12, vs)), (b6, .inl (g.2.1 1, 11, .inl rP)), (b7, .inl (g.2.1 1, 11, .inl rL)), (b8, .inl (g.2.1 1, 11, .inl rD)), (b12, .inl (g.2.1 1, 132, .inl rA)), (b13, .inl (g.2.1 1, 132, .inl rB)), (b14, .inl (g.2.1 1, 132, .inl rF)), (b15, .inl (g.2.1 1, 132, .inl rT)), (b16, .inl (g.2.1 1, 132, .inl rW)), (b17, .inl (g.2.1 3, 132, .inl rO)), (b34, .inl (g.2.1 0, 425984, .inl ((R (fj + 1) bu ca N).2)))])) : MetI l g yX12_tryRow cX12_tryRow 10 (some .int) (dd + 1) 0 0 [.ref h0, .int (nI h), .int kw, .int oz, .int (nI fj), .int bu, .int ca] [(h0, .inr (12, vs)), (b6, .inl (g.2.1 1, 11, .inl rP)), (b7, .inl (g.2.1 1, 11, .inl rL)), (b8, .inl (g.2.1 1, 11, .inl rD)), (b12, .inl (g.2.1 1, 132, .inl rA)), (b13, .inl (g.2.1 1, 132, .inl rB)), (b14, .inl (g.2.1 1, 132, .inl rF)), (b15, .inl (g.2.1 1, 132, .inl rT)), (b16, .inl (g.2.1 1, 132, .inl rW)), (b17, .inl (g.2.1 3, 132, .inl rO)), (b34, .inl (g.2.1 0, 425984, .inl gN))] (fun r u => r = (F_X12_tryRow an rD gN i pe kw oz fj bu ca MC ND R).1 ∧ u = [(h0, .inr (12, vs)), (b6, .inl (g.2.1 1, 11, .inl rP)), (b7, .inl (g.2.1 1, 11, .inl rL)), (b8, .inl (g.2.1 1, 11, .inl rD)), (b12, .inl (g.2.1 1, 132, .inl rA)), (b13, .inl (g.2.1 1, 132, .inl rB)), (b14, .inl (g.2.1 1, 132, .inl rF)), (b15, .inl (g.2.1 1, 132, .inl rT)), (b16, .inl (g.2.1 1, 132, .inl rW)), (b17, .inl (g.2.1 3, 132, .inl rO)), (b34, .inl (g.2.1 0, 425984, .inl ((F_X12_tryRow an rD gN i pe kw oz fj bu ca MC ND R).2)))]) := by
  refine MetI.of (own := RX12) rfl (by decide) (Nat.le_of_ble_eq_true rfl) ?_
  intro p e s m below meth c A ls args Q hQ X hr hin hW hl
  have hx := X.1
  have hb := X.2.1
  have hl : lv_has ls 10 [(0, .ref h0), (1, .int (nI h)), (2, .int kw), (3, .int oz), (4, .int (nI fj)), (5, .int bu), (6, .int ca)] := hl
  refine lv_iload (pc := 0) hx hb dX12_tryRow_0 (lv_at hl 4 rfl) ?_
  refine lv_aload_n (pc := 2) hx hb dX12_tryRow_2 rfl (lv_at hl 0 rfl) ?_
  refine r_get X hW 0 ciX12 6 rfl (by decide) m_1237 rfl h6_ dX12_tryRow_3 ?_
  refine lv_aload_n (pc := 6) hx hb dX12_tryRow_6 rfl (lv_at hl 0 rfl) ?_
  refine r_get X hW 0 ciX12 37 rfl (by decide) m_1268 rfl h37_ dX12_tryRow_7 ?_
  refine r_iald X hW 1 rfl (vp_in_nI (by omega) (by decide)) dX12_tryRow_10 ?_
  refine lv_topi (fun v1 ev1 => ?_)
  obtain rfl : v1 = rP i := ev1.trans (by rw [nI_clamp (by omega)])
  rw [hP]
  refine lv_icmp_ne (tgt := 73) (pc := 11) hx hb dX12_tryRow_11 rfl (fun c2 => ?_) (fun c2 => ?_)
  · have h3 : ¬ (fj = pe) := fun q => c2 ((nI_eq (a := fj) (b := pe) (by omega) (by omega)).mpr q)
    refine lv_bipush (v := 99) (pc := 73) hx hb dX12_tryRow_73 (by decide) ?_
    refine lv_istore (lv' := [(7, .int 99), (0, .ref h0), (1, .int (nI h)), (2, .int kw), (3, .int oz), (4, .int (nI fj)), (5, .int bu), (6, .int ca)]) (pc := 75) hx hb dX12_tryRow_75 hl (by decide) rfl (fun ls hl => ?_)
    refine lv_iload_n (pc := 77) hx hb dX12_tryRow_77 rfl (lv_at hl 3 rfl) ?_
    refine lv_iload (pc := 78) hx hb dX12_tryRow_78 (lv_at hl 5 rfl) ?_
    refine lv_ishr (pc := 80) hx hb dX12_tryRow_80 ?_
    refine lv_iconst (v := 1) (pc := 81) hx hb dX12_tryRow_81 (by decide) ?_
    refine lv_iand (pc := 82) hx hb dX12_tryRow_82 ?_
    refine lv_iconst (v := 1) (pc := 83) hx hb dX12_tryRow_83 (by decide) ?_
    refine lv_icmp_ne (tgt := 113) (pc := 84) hx hb dX12_tryRow_84 rfl (fun c4 => ?_) (fun c4 => ?_)
    · refine lv_iconst (v := 0) (pc := 113) hx hb dX12_tryRow_113 (by decide) ?_
      refine lv_istore (lv' := [(8, .int 0), (7, .int 99), (0, .ref h0), (1, .int (nI h)), (2, .int kw), (3, .int oz), (4, .int (nI fj)), (5, .int bu), (6, .int ca)]) (pc := 114) hx hb dX12_tryRow_114 hl (by decide) rfl (fun ls hl => ?_)
      refine lv_iconst (v := 0) (pc := 116) hx hb dX12_tryRow_116 (by decide) ?_
      refine lv_istore (lv' := [(9, .int 0), (8, .int 0), (7, .int 99), (0, .ref h0), (1, .int (nI h)), (2, .int kw), (3, .int oz), (4, .int (nI fj)), (5, .int bu), (6, .int ca)]) (pc := 117) hx hb dX12_tryRow_117 hl (by decide) rfl (fun ls hl => ?_)
      refine lv_iload (pc := 119) hx hb dX12_tryRow_119 (lv_at hl 0 rfl) ?_
      refine lv_aload_n (pc := 121) hx hb dX12_tryRow_121 rfl (lv_at hl 3 rfl) ?_
      refine r_get X hW 0 ciX12 6 rfl (by decide) m_1237 rfl h6_ dX12_tryRow_122 ?_
      refine lv_aload_n (pc := 125) hx hb dX12_tryRow_125 rfl (lv_at hl 3 rfl) ?_
      refine r_get X hW 0 ciX12 37 rfl (by decide) m_1268 rfl h37_ dX12_tryRow_126 ?_
      refine r_iald X hW 1 rfl (vp_in_nI (by omega) (by decide)) dX12_tryRow_129 ?_
      refine lv_topi (fun v6 ev6 => ?_)
      obtain rfl : v6 = rP i := ev6.trans (by rw [nI_clamp (by omega)])
      rw [hP]
      refine lv_icmp_ge (tgt := 230) (pc := 130) hx hb dX12_tryRow_130 rfl (fun c7 => absurd c7 (fun q => absurd ((nI_leI (a := pe) (b := 0) (by omega) (by omega)).mp q) (by omega))) (fun c7 => ?_)
      refine lv_iload (pc := 133) hx hb dX12_tryRow_133 (lv_at hl 1 rfl) ?_
      refine lv_if_eq (tgt := 230) (pc := 135) hx hb dX12_tryRow_135 rfl (fun c8 => ?_) (fun c8 => absurd (by decide) c8)
      refine lv_iload (pc := 230) hx hb dX12_tryRow_230 (lv_at hl 2 rfl) ?_
      refine lv_if_ne (tgt := 239) (pc := 232) hx hb dX12_tryRow_232 rfl (fun c9 => ?_) (fun c9 => absurd c9 (by decide))
      refine lv_iload (pc := 239) hx hb dX12_tryRow_239 (lv_at hl 2 rfl) ?_
      refine lv_aload_n (pc := 241) hx hb dX12_tryRow_241 rfl (lv_at hl 3 rfl) ?_
      refine lv_iload_n (pc := 242) hx hb dX12_tryRow_242 rfl (lv_at hl 4 rfl) ?_
      refine lv_iload_n (pc := 243) hx hb dX12_tryRow_243 rfl (lv_at hl 5 rfl) ?_
      refine lv_iload_n (pc := 244) hx hb dX12_tryRow_244 rfl (lv_at hl 6 rfl) ?_
      refine lv_iload (pc := 245) hx hb dX12_tryRow_245 (lv_at hl 7 rfl) ?_
      refine lv_iconst (v := 1) (pc := 247) hx hb dX12_tryRow_247 (by decide) ?_
      refine lv_iadd (pc := 248) hx hb dX12_tryRow_248 ?_
      refine lv_topi (fun v10 ev10 => ?_)
      obtain rfl : v10 = nI (fj + 1) := ev10.trans (nI_add fj 1)
      refine lv_iload (pc := 249) hx hb dX12_tryRow_249 (lv_at hl 8 rfl) ?_
      refine lv_iload (pc := 251) hx hb dX12_tryRow_251 (lv_at hl 9 rfl) ?_
      refine c_Vi (pc := 253) (As := [.int (nI h), .int kw, .int oz, .int (nI (fj + 1)), .int bu, .int ca]) (rest := [.int 99]) (wr := []) X hW 0 ciX12 rfl (hrec (by omega) gN bu ca hca) vX12_301 [0, 1, 2, 3, 4, 5, 6, 7, 8, 9, 10] [] rfl rfl rfl rfl rfl rfl hl.1 rfl (Nat.le_of_ble_eq_true rfl) ⟨by show _ ≤ dd + 1; omega, by show _ ≤ 40 * (dd + 1); omega⟩ ⟨Nat.le_of_ble_eq_true rfl, Nat.le_of_ble_eq_true rfl⟩ dX12_tryRow_253 (fun r11 u9 H locs hq hW => ?_)
      obtain ⟨rfl, rfl⟩ := hq
      have hW : WD g A s _ _ [(h0, .inr (12, vs)), (b6, .inl (g.2.1 1, 11, .inl rP)), (b7, .inl (g.2.1 1, 11, .inl rL)), (b8, .inl (g.2.1 1, 11, .inl rD)), (b12, .inl (g.2.1 1, 132, .inl rA)), (b13, .inl (g.2.1 1, 132, .inl rB)), (b14, .inl (g.2.1 1, 132, .inl rF)), (b15, .inl (g.2.1 1, 132, .inl rT)), (b16, .inl (g.2.1 1, 132, .inl rW)), (b17, .inl (g.2.1 3, 132, .inl rO)), (b34, .inl (g.2.1 0, 425984, .inl ((R (fj + 1) bu ca gN).2)))] := hW
      refine va_mmin (pc := 256) hx hb (X.2.2.1.trans hl.1.symm) X.2.2.2.1 (X.2.2.2.2.1 _ mm_X12_256) (X.2.2.2.2.1 _ mms_min) (X.2.2.2.2.1 _ m_19) (X.2.2.2.2.1 _ mmc_min) (by show _ ≤ dd + 1; omega) (Nat.le_trans (m := 40 * 2) (Nat.le_of_ble_eq_true rfl) (by show 40 * 2 ≤ 40 * (dd + 1); omega)) (Nat.le_of_ble_eq_true rfl) (Nat.le_of_ble_eq_true rfl) dX12_tryRow_256 ?_
      refine lv_topi (fun v12 ev12 => ?_)
      obtain rfl : v12 = mn2 (99 : Int32) ((R (fj + 1) bu ca gN).1) := ev12.trans (rfl)
      have hF : F_X12_tryRow an rD gN i pe kw oz fj bu ca MC ND R = (mn2 (99 : Int32) ((R (fj + 1) bu ca gN).1), ((R (fj + 1) bu ca gN).2)) := show F_X12_tryRow an rD gN i pe kw oz fj bu ca MC ND R = (mn2 (99 : Int32) ((R (fj + 1) bu ca gN).1), ((R (fj + 1) bu ca gN).2)) from by rw [F_X12_tryRow, if_neg c2, if_neg c4]
      exact e_i (u := [(h0, .inr (12, vs)), (b6, .inl (g.2.1 1, 11, .inl rP)), (b7, .inl (g.2.1 1, 11, .inl rL)), (b8, .inl (g.2.1 1, 11, .inl rD)), (b12, .inl (g.2.1 1, 132, .inl rA)), (b13, .inl (g.2.1 1, 132, .inl rB)), (b14, .inl (g.2.1 1, 132, .inl rF)), (b15, .inl (g.2.1 1, 132, .inl rT)), (b16, .inl (g.2.1 1, 132, .inl rW)), (b17, .inl (g.2.1 3, 132, .inl rO)), (b34, .inl (g.2.1 0, 425984, .inl ((R (fj + 1) bu ca gN).2)))]) X hQ hr (hW) [0, 1, 2, 3, 4, 5, 6, 7, 8, 9, 10] rfl rfl (⟨(congrArg Prod.fst hF).symm, by rw [hF]⟩) ⟨Nat.le_of_ble_eq_true rfl, Nat.le_of_ble_eq_true rfl⟩ dX12_tryRow_259
    · refine lv_aload_n (pc := 87) hx hb dX12_tryRow_87 rfl (lv_at hl 1 rfl) ?_
      refine r_get X hW 0 ciX12 39 rfl (by decide) m_1270 rfl h39_ dX12_tryRow_88 ?_
      refine lv_iload (pc := 91) hx hb dX12_tryRow_91 (lv_at hl 5 rfl) ?_
      refine lv_ishr (pc := 93) hx hb dX12_tryRow_93 ?_
      refine lv_iconst (v := 1) (pc := 94) hx hb dX12_tryRow_94 (by decide) ?_
      refine lv_iand (pc := 95) hx hb dX12_tryRow_95 ?_
      refine lv_if_ne (tgt := 113) (pc := 96) hx hb dX12_tryRow_96 rfl (fun c14 => ?_) (fun c14 => ?_)
      · refine lv_iconst (v := 0) (pc := 113) hx hb dX12_tryRow_113 (by decide) ?_
        refine lv_istore (lv' := [(8, .int 0), (7, .int 99), (0, .ref h0), (1, .int (nI h)), (2, .int kw), (3, .int oz), (4, .int (nI fj)), (5, .int bu), (6, .int ca)]) (pc := 114) hx hb dX12_tryRow_114 hl (by decide) rfl (fun ls hl => ?_)
        refine lv_iconst (v := 0) (pc := 116) hx hb dX12_tryRow_116 (by decide) ?_
        refine lv_istore (lv' := [(9, .int 0), (8, .int 0), (7, .int 99), (0, .ref h0), (1, .int (nI h)), (2, .int kw), (3, .int oz), (4, .int (nI fj)), (5, .int bu), (6, .int ca)]) (pc := 117) hx hb dX12_tryRow_117 hl (by decide) rfl (fun ls hl => ?_)
        refine lv_iload (pc := 119) hx hb dX12_tryRow_119 (lv_at hl 0 rfl) ?_
        refine lv_aload_n (pc := 121) hx hb dX12_tryRow_121 rfl (lv_at hl 3 rfl) ?_
        refine r_get X hW 0 ciX12 6 rfl (by decide) m_1237 rfl h6_ dX12_tryRow_122 ?_
        refine lv_aload_n (pc := 125) hx hb dX12_tryRow_125 rfl (lv_at hl 3 rfl) ?_
        refine r_get X hW 0 ciX12 37 rfl (by decide) m_1268 rfl h37_ dX12_tryRow_126 ?_
        refine r_iald X hW 1 rfl (vp_in_nI (by omega) (by decide)) dX12_tryRow_129 ?_
        refine lv_topi (fun v16 ev16 => ?_)
        obtain rfl : v16 = rP i := ev16.trans (by rw [nI_clamp (by omega)])
        rw [hP]
        refine lv_icmp_ge (tgt := 230) (pc := 130) hx hb dX12_tryRow_130 rfl (fun c17 => absurd c17 (fun q => absurd ((nI_leI (a := pe) (b := 0) (by omega) (by omega)).mp q) (by omega))) (fun c17 => ?_)
        refine lv_iload (pc := 133) hx hb dX12_tryRow_133 (lv_at hl 1 rfl) ?_
        refine lv_if_eq (tgt := 230) (pc := 135) hx hb dX12_tryRow_135 rfl (fun c18 => ?_) (fun c18 => absurd (by decide) c18)
        refine lv_iload (pc := 230) hx hb dX12_tryRow_230 (lv_at hl 2 rfl) ?_
        refine lv_if_ne (tgt := 239) (pc := 232) hx hb dX12_tryRow_232 rfl (fun c19 => ?_) (fun c19 => absurd c19 (by decide))
        refine lv_iload (pc := 239) hx hb dX12_tryRow_239 (lv_at hl 2 rfl) ?_
        refine lv_aload_n (pc := 241) hx hb dX12_tryRow_241 rfl (lv_at hl 3 rfl) ?_
        refine lv_iload_n (pc := 242) hx hb dX12_tryRow_242 rfl (lv_at hl 4 rfl) ?_
        refine lv_iload_n (pc := 243) hx hb dX12_tryRow_243 rfl (lv_at hl 5 rfl) ?_
        refine lv_iload_n (pc := 244) hx hb dX12_tryRow_244 rfl (lv_at hl 6 rfl) ?_
        refine lv_iload (pc := 245) hx hb dX12_tryRow_245 (lv_at hl 7 rfl) ?_
        refine lv_iconst (v := 1) (pc := 247) hx hb dX12_tryRow_247 (by decide) ?_
        refine lv_iadd (pc := 248) hx hb dX12_tryRow_248 ?_
        refine lv_topi (fun v20 ev20 => ?_)
        obtain rfl : v20 = nI (fj + 1) := ev20.trans (nI_add fj 1)
        refine lv_iload (pc := 249) hx hb dX12_tryRow_249 (lv_at hl 8 rfl) ?_
        refine lv_iload (pc := 251) hx hb dX12_tryRow_251 (lv_at hl 9 rfl) ?_
        refine c_Vi (pc := 253) (As := [.int (nI h), .int kw, .int oz, .int (nI (fj + 1)), .int bu, .int ca]) (rest := [.int 99]) (wr := []) X hW 0 ciX12 rfl (hrec (by omega) gN bu ca hca) vX12_301 [0, 1, 2, 3, 4, 5, 6, 7, 8, 9, 10] [] rfl rfl rfl rfl rfl rfl hl.1 rfl (Nat.le_of_ble_eq_true rfl) ⟨by show _ ≤ dd + 1; omega, by show _ ≤ 40 * (dd + 1); omega⟩ ⟨Nat.le_of_ble_eq_true rfl, Nat.le_of_ble_eq_true rfl⟩ dX12_tryRow_253 (fun r21 u9 H locs hq hW => ?_)
        obtain ⟨rfl, rfl⟩ := hq
        have hW : WD g A s _ _ [(h0, .inr (12, vs)), (b6, .inl (g.2.1 1, 11, .inl rP)), (b7, .inl (g.2.1 1, 11, .inl rL)), (b8, .inl (g.2.1 1, 11, .inl rD)), (b12, .inl (g.2.1 1, 132, .inl rA)), (b13, .inl (g.2.1 1, 132, .inl rB)), (b14, .inl (g.2.1 1, 132, .inl rF)), (b15, .inl (g.2.1 1, 132, .inl rT)), (b16, .inl (g.2.1 1, 132, .inl rW)), (b17, .inl (g.2.1 3, 132, .inl rO)), (b34, .inl (g.2.1 0, 425984, .inl ((R (fj + 1) bu ca gN).2)))] := hW
        refine va_mmin (pc := 256) hx hb (X.2.2.1.trans hl.1.symm) X.2.2.2.1 (X.2.2.2.2.1 _ mm_X12_256) (X.2.2.2.2.1 _ mms_min) (X.2.2.2.2.1 _ m_19) (X.2.2.2.2.1 _ mmc_min) (by show _ ≤ dd + 1; omega) (Nat.le_trans (m := 40 * 2) (Nat.le_of_ble_eq_true rfl) (by show 40 * 2 ≤ 40 * (dd + 1); omega)) (Nat.le_of_ble_eq_true rfl) (Nat.le_of_ble_eq_true rfl) dX12_tryRow_256 ?_
        refine lv_topi (fun v22 ev22 => ?_)
        obtain rfl : v22 = mn2 (99 : Int32) ((R (fj + 1) bu ca gN).1) := ev22.trans (rfl)
        have hF : F_X12_tryRow an rD gN i pe kw oz fj bu ca MC ND R = (mn2 (99 : Int32) ((R (fj + 1) bu ca gN).1), ((R (fj + 1) bu ca gN).2)) := show F_X12_tryRow an rD gN i pe kw oz fj bu ca MC ND R = (mn2 (99 : Int32) ((R (fj + 1) bu ca gN).1), ((R (fj + 1) bu ca gN).2)) from by rw [F_X12_tryRow, if_neg c2, if_pos c4, if_neg c14]
        exact e_i (u := [(h0, .inr (12, vs)), (b6, .inl (g.2.1 1, 11, .inl rP)), (b7, .inl (g.2.1 1, 11, .inl rL)), (b8, .inl (g.2.1 1, 11, .inl rD)), (b12, .inl (g.2.1 1, 132, .inl rA)), (b13, .inl (g.2.1 1, 132, .inl rB)), (b14, .inl (g.2.1 1, 132, .inl rF)), (b15, .inl (g.2.1 1, 132, .inl rT)), (b16, .inl (g.2.1 1, 132, .inl rW)), (b17, .inl (g.2.1 3, 132, .inl rO)), (b34, .inl (g.2.1 0, 425984, .inl ((R (fj + 1) bu ca gN).2)))]) X hQ hr (hW) [0, 1, 2, 3, 4, 5, 6, 7, 8, 9, 10] rfl rfl (⟨(congrArg Prod.fst hF).symm, by rw [hF]⟩) ⟨Nat.le_of_ble_eq_true rfl, Nat.le_of_ble_eq_true rfl⟩ dX12_tryRow_259
      · refine lv_iload (pc := 99) hx hb dX12_tryRow_99 (lv_at hl 6 rfl) ?_
        refine lv_iload (pc := 101) hx hb dX12_tryRow_101 (lv_at hl 5 rfl) ?_
        refine lv_ishr (pc := 103) hx hb dX12_tryRow_103 ?_
        refine lv_iconst (v := 1) (pc := 104) hx hb dX12_tryRow_104 (by decide) ?_
        refine lv_iand (pc := 105) hx hb dX12_tryRow_105 ?_
        refine lv_if_ne (tgt := 113) (pc := 106) hx hb dX12_tryRow_106 rfl (fun c24 => ?_) (fun c24 => ?_)
        · refine lv_iconst (v := 0) (pc := 113) hx hb dX12_tryRow_113 (by decide) ?_
          refine lv_istore (lv' := [(8, .int 0), (7, .int 99), (0, .ref h0), (1, .int (nI h)), (2, .int kw), (3, .int oz), (4, .int (nI fj)), (5, .int bu), (6, .int ca)]) (pc := 114) hx hb dX12_tryRow_114 hl (by decide) rfl (fun ls hl => ?_)
          refine lv_iconst (v := 0) (pc := 116) hx hb dX12_tryRow_116 (by decide) ?_
          refine lv_istore (lv' := [(9, .int 0), (8, .int 0), (7, .int 99), (0, .ref h0), (1, .int (nI h)), (2, .int kw), (3, .int oz), (4, .int (nI fj)), (5, .int bu), (6, .int ca)]) (pc := 117) hx hb dX12_tryRow_117 hl (by decide) rfl (fun ls hl => ?_)
          refine lv_iload (pc := 119) hx hb dX12_tryRow_119 (lv_at hl 0 rfl) ?_
          refine lv_aload_n (pc := 121) hx hb dX12_tryRow_121 rfl (lv_at hl 3 rfl) ?_
          refine r_get X hW 0 ciX12 6 rfl (by decide) m_1237 rfl h6_ dX12_tryRow_122 ?_
          refine lv_aload_n (pc := 125) hx hb dX12_tryRow_125 rfl (lv_at hl 3 rfl) ?_
          refine r_get X hW 0 ciX12 37 rfl (by decide) m_1268 rfl h37_ dX12_tryRow_126 ?_
          refine r_iald X hW 1 rfl (vp_in_nI (by omega) (by decide)) dX12_tryRow_129 ?_
          refine lv_topi (fun v26 ev26 => ?_)
          obtain rfl : v26 = rP i := ev26.trans (by rw [nI_clamp (by omega)])
          rw [hP]
          refine lv_icmp_ge (tgt := 230) (pc := 130) hx hb dX12_tryRow_130 rfl (fun c27 => absurd c27 (fun q => absurd ((nI_leI (a := pe) (b := 0) (by omega) (by omega)).mp q) (by omega))) (fun c27 => ?_)
          refine lv_iload (pc := 133) hx hb dX12_tryRow_133 (lv_at hl 1 rfl) ?_
          refine lv_if_eq (tgt := 230) (pc := 135) hx hb dX12_tryRow_135 rfl (fun c28 => ?_) (fun c28 => absurd (by decide) c28)
          refine lv_iload (pc := 230) hx hb dX12_tryRow_230 (lv_at hl 2 rfl) ?_
          refine lv_if_ne (tgt := 239) (pc := 232) hx hb dX12_tryRow_232 rfl (fun c29 => ?_) (fun c29 => absurd c29 (by decide))
          refine lv_iload (pc := 239) hx hb dX12_tryRow_239 (lv_at hl 2 rfl) ?_
          refine lv_aload_n (pc := 241) hx hb dX12_tryRow_241 rfl (lv_at hl 3 rfl) ?_
          refine lv_iload_n (pc := 242) hx hb dX12_tryRow_242 rfl (lv_at hl 4 rfl) ?_
          refine lv_iload_n (pc := 243) hx hb dX12_tryRow_243 rfl (lv_at hl 5 rfl) ?_
          refine lv_iload_n (pc := 244) hx hb dX12_tryRow_244 rfl (lv_at hl 6 rfl) ?_
          refine lv_iload (pc := 245) hx hb dX12_tryRow_245 (lv_at hl 7 rfl) ?_
          refine lv_iconst (v := 1) (pc := 247) hx hb dX12_tryRow_247 (by decide) ?_
          refine lv_iadd (pc := 248) hx hb dX12_tryRow_248 ?_
          refine lv_topi (fun v30 ev30 => ?_)
          obtain rfl : v30 = nI (fj + 1) := ev30.trans (nI_add fj 1)
          refine lv_iload (pc := 249) hx hb dX12_tryRow_249 (lv_at hl 8 rfl) ?_
          refine lv_iload (pc := 251) hx hb dX12_tryRow_251 (lv_at hl 9 rfl) ?_
          refine c_Vi (pc := 253) (As := [.int (nI h), .int kw, .int oz, .int (nI (fj + 1)), .int bu, .int ca]) (rest := [.int 99]) (wr := []) X hW 0 ciX12 rfl (hrec (by omega) gN bu ca hca) vX12_301 [0, 1, 2, 3, 4, 5, 6, 7, 8, 9, 10] [] rfl rfl rfl rfl rfl rfl hl.1 rfl (Nat.le_of_ble_eq_true rfl) ⟨by show _ ≤ dd + 1; omega, by show _ ≤ 40 * (dd + 1); omega⟩ ⟨Nat.le_of_ble_eq_true rfl, Nat.le_of_ble_eq_true rfl⟩ dX12_tryRow_253 (fun r31 u9 H locs hq hW => ?_)
          obtain ⟨rfl, rfl⟩ := hq
          have hW : WD g A s _ _ [(h0, .inr (12, vs)), (b6, .inl (g.2.1 1, 11, .inl rP)), (b7, .inl (g.2.1 1, 11, .inl rL)), (b8, .inl (g.2.1 1, 11, .inl rD)), (b12, .inl (g.2.1 1, 132, .inl rA)), (b13, .inl (g.2.1 1, 132, .inl rB)), (b14, .inl (g.2.1 1, 132, .inl rF)), (b15, .inl (g.2.1 1, 132, .inl rT)), (b16, .inl (g.2.1 1, 132, .inl rW)), (b17, .inl (g.2.1 3, 132, .inl rO)), (b34, .inl (g.2.1 0, 425984, .inl ((R (fj + 1) bu ca gN).2)))] := hW
          refine va_mmin (pc := 256) hx hb (X.2.2.1.trans hl.1.symm) X.2.2.2.1 (X.2.2.2.2.1 _ mm_X12_256) (X.2.2.2.2.1 _ mms_min) (X.2.2.2.2.1 _ m_19) (X.2.2.2.2.1 _ mmc_min) (by show _ ≤ dd + 1; omega) (Nat.le_trans (m := 40 * 2) (Nat.le_of_ble_eq_true rfl) (by show 40 * 2 ≤ 40 * (dd + 1); omega)) (Nat.le_of_ble_eq_true rfl) (Nat.le_of_ble_eq_true rfl) dX12_tryRow_256 ?_
          refine lv_topi (fun v32 ev32 => ?_)
          obtain rfl : v32 = mn2 (99 : Int32) ((R (fj + 1) bu ca gN).1) := ev32.trans (rfl)
          have hF : F_X12_tryRow an rD gN i pe kw oz fj bu ca MC ND R = (mn2 (99 : Int32) ((R (fj + 1) bu ca gN).1), ((R (fj + 1) bu ca gN).2)) := show F_X12_tryRow an rD gN i pe kw oz fj bu ca MC ND R = (mn2 (99 : Int32) ((R (fj + 1) bu ca gN).1), ((R (fj + 1) bu ca gN).2)) from by rw [F_X12_tryRow, if_neg c2, if_pos c4, if_pos c14, if_neg c24]
          exact e_i (u := [(h0, .inr (12, vs)), (b6, .inl (g.2.1 1, 11, .inl rP)), (b7, .inl (g.2.1 1, 11, .inl rL)), (b8, .inl (g.2.1 1, 11, .inl rD)), (b12, .inl (g.2.1 1, 132, .inl rA)), (b13, .inl (g.2.1 1, 132, .inl rB)), (b14, .inl (g.2.1 1, 132, .inl rF)), (b15, .inl (g.2.1 1, 132, .inl rT)), (b16, .inl (g.2.1 1, 132, .inl rW)), (b17, .inl (g.2.1 3, 132, .inl rO)), (b34, .inl (g.2.1 0, 425984, .inl ((R (fj + 1) bu ca gN).2)))]) X hQ hr (hW) [0, 1, 2, 3, 4, 5, 6, 7, 8, 9, 10] rfl rfl (⟨(congrArg Prod.fst hF).symm, by rw [hF]⟩) ⟨Nat.le_of_ble_eq_true rfl, Nat.le_of_ble_eq_true rfl⟩ dX12_tryRow_259
        · refine lv_iconst (v := 1) (pc := 109) hx hb dX12_tryRow_109 (by decide) ?_
          refine lv_goto (tgt := 114) (pc := 110) hx hb dX12_tryRow_110 rfl ?_
          refine lv_istore (lv' := [(8, .int 1), (7, .int 99), (0, .ref h0), (1, .int (nI h)), (2, .int kw), (3, .int oz), (4, .int (nI fj)), (5, .int bu), (6, .int ca)]) (pc := 114) hx hb dX12_tryRow_114 hl (by decide) rfl (fun ls hl => ?_)
          refine lv_iconst (v := 0) (pc := 116) hx hb dX12_tryRow_116 (by decide) ?_
          refine lv_istore (lv' := [(9, .int 0), (8, .int 1), (7, .int 99), (0, .ref h0), (1, .int (nI h)), (2, .int kw), (3, .int oz), (4, .int (nI fj)), (5, .int bu), (6, .int ca)]) (pc := 117) hx hb dX12_tryRow_117 hl (by decide) rfl (fun ls hl => ?_)
          have loop1 : ∀ (fu1 : Nat) (j1 : Nat) (x7_1 : Int32) (fb34_1 : Nat → Int32), (pe < fu1 + j1) → (j1 ≤ pe) → (L1_X12_tryRow an pe kw fj bu ca MC R fu1 j1 x7_1 fb34_1 = F_X12_tryRow an rD gN i pe kw oz fj bu ca MC ND R) → ∀ (H : Heap) (locs : List Loc) (ls : Array Slot), WD g A s H locs [(h0, .inr (12, vs)), (b6, .inl (g.2.1 1, 11, .inl rP)), (b7, .inl (g.2.1 1, 11, .inl rL)), (b8, .inl (g.2.1 1, 11, .inl rD)), (b12, .inl (g.2.1 1, 132, .inl rA)), (b13, .inl (g.2.1 1, 132, .inl rB)), (b14, .inl (g.2.1 1, 132, .inl rF)), (b15, .inl (g.2.1 1, 132, .inl rT)), (b16, .inl (g.2.1 1, 132, .inl rW)), (b17, .inl (g.2.1 3, 132, .inl rO)), (b34, .inl (g.2.1 0, 425984, .inl fb34_1))] → lv_has ls 10 [(9, .int (nI j1)), (8, .int 1), (7, .int x7_1), (0, .ref h0), (1, .int (nI h)), (2, .int kw), (3, .int oz), (4, .int (nI fj)), (5, .int bu), (6, .int ca)] → W p l e (RM (dd + 1) 0 0) s m args below meth c H locs 0 0 Q (F0 m 119 ls []) := by
            intro fu1
            induction fu1 with
            | zero =>
              intro j1 x7_1 fb34_1 hm1 hj1 hst1
              exact absurd hm1 (by omega)
            | succ fu1 ih1 =>
              intro j1 x7_1 fb34_1 hm1 hj1 hst1 H locs ls hW hl
              refine lv_iload (pc := 119) hx hb dX12_tryRow_119 (lv_at hl 0 rfl) ?_
              refine lv_aload_n (pc := 121) hx hb dX12_tryRow_121 rfl (lv_at hl 3 rfl) ?_
              refine r_get X hW 0 ciX12 6 rfl (by decide) m_1237 rfl h6_ dX12_tryRow_122 ?_
              refine lv_aload_n (pc := 125) hx hb dX12_tryRow_125 rfl (lv_at hl 3 rfl) ?_
              refine r_get X hW 0 ciX12 37 rfl (by decide) m_1268 rfl h37_ dX12_tryRow_126 ?_
              refine r_iald X hW 1 rfl (vp_in_nI (by omega) (by decide)) dX12_tryRow_129 ?_
              refine lv_topi (fun v34 ev34 => ?_)
              obtain rfl : v34 = rP i := ev34.trans (by rw [nI_clamp (by omega)])
              rw [hP]
              refine lv_icmp_ge (tgt := 230) (pc := 130) hx hb dX12_tryRow_130 rfl (fun c35 => ?_) (fun c35 => ?_)
              · have h36 : pe ≤ j1 := (nI_leI (a := pe) (b := j1) (by omega) (by omega)).mp c35
                refine lv_iload (pc := 230) hx hb dX12_tryRow_230 (lv_at hl 2 rfl) ?_
                refine lv_if_ne (tgt := 239) (pc := 232) hx hb dX12_tryRow_232 rfl (fun c37 => ?_) (fun c37 => ?_)
                · refine lv_iload (pc := 239) hx hb dX12_tryRow_239 (lv_at hl 2 rfl) ?_
                  refine lv_aload_n (pc := 241) hx hb dX12_tryRow_241 rfl (lv_at hl 3 rfl) ?_
                  refine lv_iload_n (pc := 242) hx hb dX12_tryRow_242 rfl (lv_at hl 4 rfl) ?_
                  refine lv_iload_n (pc := 243) hx hb dX12_tryRow_243 rfl (lv_at hl 5 rfl) ?_
                  refine lv_iload_n (pc := 244) hx hb dX12_tryRow_244 rfl (lv_at hl 6 rfl) ?_
                  refine lv_iload (pc := 245) hx hb dX12_tryRow_245 (lv_at hl 7 rfl) ?_
                  refine lv_iconst (v := 1) (pc := 247) hx hb dX12_tryRow_247 (by decide) ?_
                  refine lv_iadd (pc := 248) hx hb dX12_tryRow_248 ?_
                  refine lv_topi (fun v39 ev39 => ?_)
                  obtain rfl : v39 = nI (fj + 1) := ev39.trans (nI_add fj 1)
                  refine lv_iload (pc := 249) hx hb dX12_tryRow_249 (lv_at hl 8 rfl) ?_
                  refine lv_iload (pc := 251) hx hb dX12_tryRow_251 (lv_at hl 9 rfl) ?_
                  refine c_Vi (pc := 253) (As := [.int (nI h), .int kw, .int oz, .int (nI (fj + 1)), .int bu, .int ca]) (rest := [.int x7_1]) (wr := []) X hW 0 ciX12 rfl (hrec (by omega) fb34_1 bu ca hca) vX12_301 [0, 1, 2, 3, 4, 5, 6, 7, 8, 9, 10] [] rfl rfl rfl rfl rfl rfl hl.1 rfl (Nat.le_of_ble_eq_true rfl) ⟨by show _ ≤ dd + 1; omega, by show _ ≤ 40 * (dd + 1); omega⟩ ⟨Nat.le_of_ble_eq_true rfl, Nat.le_of_ble_eq_true rfl⟩ dX12_tryRow_253 (fun r40 u9 H locs hq hW => ?_)
                  obtain ⟨rfl, rfl⟩ := hq
                  have hW : WD g A s _ _ [(h0, .inr (12, vs)), (b6, .inl (g.2.1 1, 11, .inl rP)), (b7, .inl (g.2.1 1, 11, .inl rL)), (b8, .inl (g.2.1 1, 11, .inl rD)), (b12, .inl (g.2.1 1, 132, .inl rA)), (b13, .inl (g.2.1 1, 132, .inl rB)), (b14, .inl (g.2.1 1, 132, .inl rF)), (b15, .inl (g.2.1 1, 132, .inl rT)), (b16, .inl (g.2.1 1, 132, .inl rW)), (b17, .inl (g.2.1 3, 132, .inl rO)), (b34, .inl (g.2.1 0, 425984, .inl ((R (fj + 1) bu ca fb34_1).2)))] := hW
                  refine va_mmin (pc := 256) hx hb (X.2.2.1.trans hl.1.symm) X.2.2.2.1 (X.2.2.2.2.1 _ mm_X12_256) (X.2.2.2.2.1 _ mms_min) (X.2.2.2.2.1 _ m_19) (X.2.2.2.2.1 _ mmc_min) (by show _ ≤ dd + 1; omega) (Nat.le_trans (m := 40 * 2) (Nat.le_of_ble_eq_true rfl) (by show 40 * 2 ≤ 40 * (dd + 1); omega)) (Nat.le_of_ble_eq_true rfl) (Nat.le_of_ble_eq_true rfl) dX12_tryRow_256 ?_
                  refine lv_topi (fun v41 ev41 => ?_)
                  obtain rfl : v41 = mn2 x7_1 ((R (fj + 1) bu ca fb34_1).1) := ev41.trans (rfl)
                  have hF : F_X12_tryRow an rD gN i pe kw oz fj bu ca MC ND R = (mn2 x7_1 ((R (fj + 1) bu ca fb34_1).1), ((R (fj + 1) bu ca fb34_1).2)) := hst1.symm.trans (show L1_X12_tryRow an pe kw fj bu ca MC R (fu1 + 1) j1 x7_1 fb34_1 = (mn2 x7_1 ((R (fj + 1) bu ca fb34_1).1), ((R (fj + 1) bu ca fb34_1).2)) from by rw [L1_X12_tryRow, if_pos c35, if_neg c37])
                  exact e_i (u := [(h0, .inr (12, vs)), (b6, .inl (g.2.1 1, 11, .inl rP)), (b7, .inl (g.2.1 1, 11, .inl rL)), (b8, .inl (g.2.1 1, 11, .inl rD)), (b12, .inl (g.2.1 1, 132, .inl rA)), (b13, .inl (g.2.1 1, 132, .inl rB)), (b14, .inl (g.2.1 1, 132, .inl rF)), (b15, .inl (g.2.1 1, 132, .inl rT)), (b16, .inl (g.2.1 1, 132, .inl rW)), (b17, .inl (g.2.1 3, 132, .inl rO)), (b34, .inl (g.2.1 0, 425984, .inl ((R (fj + 1) bu ca fb34_1).2)))]) X hQ hr (hW) [0, 1, 2, 3, 4, 5, 6, 7, 8, 9, 10] rfl rfl (⟨(congrArg Prod.fst hF).symm, by rw [hF]⟩) ⟨Nat.le_of_ble_eq_true rfl, Nat.le_of_ble_eq_true rfl⟩ dX12_tryRow_259
                · refine lv_iconst (v := 0) (pc := 235) hx hb dX12_tryRow_235 (by decide) ?_
                  refine lv_goto (tgt := 259) (pc := 236) hx hb dX12_tryRow_236 rfl ?_
                  have hF : F_X12_tryRow an rD gN i pe kw oz fj bu ca MC ND R = ((0 : Int32), fb34_1) := hst1.symm.trans (show L1_X12_tryRow an pe kw fj bu ca MC R (fu1 + 1) j1 x7_1 fb34_1 = ((0 : Int32), fb34_1) from by rw [L1_X12_tryRow, if_pos c35, if_pos c37])
                  exact e_i (u := [(h0, .inr (12, vs)), (b6, .inl (g.2.1 1, 11, .inl rP)), (b7, .inl (g.2.1 1, 11, .inl rL)), (b8, .inl (g.2.1 1, 11, .inl rD)), (b12, .inl (g.2.1 1, 132, .inl rA)), (b13, .inl (g.2.1 1, 132, .inl rB)), (b14, .inl (g.2.1 1, 132, .inl rF)), (b15, .inl (g.2.1 1, 132, .inl rT)), (b16, .inl (g.2.1 1, 132, .inl rW)), (b17, .inl (g.2.1 3, 132, .inl rO)), (b34, .inl (g.2.1 0, 425984, .inl fb34_1))]) X hQ hr (hW) [0, 1, 2, 3, 4, 5, 6, 7, 8, 9, 10] rfl rfl (⟨(congrArg Prod.fst hF).symm, by rw [hF]⟩) ⟨Nat.le_of_ble_eq_true rfl, Nat.le_of_ble_eq_true rfl⟩ dX12_tryRow_259
              · have h43 : ¬ (pe ≤ j1) := fun q => c35 ((nI_leI (a := pe) (b := j1) (by omega) (by omega)).mpr q)
                refine lv_iload (pc := 133) hx hb dX12_tryRow_133 (lv_at hl 1 rfl) ?_
                refine lv_if_eq (tgt := 230) (pc := 135) hx hb dX12_tryRow_135 rfl (fun c44 => absurd c44 (by decide)) (fun c44 => ?_)
                refine lv_iload (pc := 138) hx hb dX12_tryRow_138 (lv_at hl 2 rfl) ?_
                refine lv_if_le (tgt := 230) (pc := 140) hx hb dX12_tryRow_140 rfl (fun c45 => ?_) (fun c45 => ?_)
                · refine lv_iload (pc := 230) hx hb dX12_tryRow_230 (lv_at hl 2 rfl) ?_
                  refine lv_if_ne (tgt := 239) (pc := 232) hx hb dX12_tryRow_232 rfl (fun c47 => ?_) (fun c47 => ?_)
                  · refine lv_iload (pc := 239) hx hb dX12_tryRow_239 (lv_at hl 2 rfl) ?_
                    refine lv_aload_n (pc := 241) hx hb dX12_tryRow_241 rfl (lv_at hl 3 rfl) ?_
                    refine lv_iload_n (pc := 242) hx hb dX12_tryRow_242 rfl (lv_at hl 4 rfl) ?_
                    refine lv_iload_n (pc := 243) hx hb dX12_tryRow_243 rfl (lv_at hl 5 rfl) ?_
                    refine lv_iload_n (pc := 244) hx hb dX12_tryRow_244 rfl (lv_at hl 6 rfl) ?_
                    refine lv_iload (pc := 245) hx hb dX12_tryRow_245 (lv_at hl 7 rfl) ?_
                    refine lv_iconst (v := 1) (pc := 247) hx hb dX12_tryRow_247 (by decide) ?_
                    refine lv_iadd (pc := 248) hx hb dX12_tryRow_248 ?_
                    refine lv_topi (fun v49 ev49 => ?_)
                    obtain rfl : v49 = nI (fj + 1) := ev49.trans (nI_add fj 1)
                    refine lv_iload (pc := 249) hx hb dX12_tryRow_249 (lv_at hl 8 rfl) ?_
                    refine lv_iload (pc := 251) hx hb dX12_tryRow_251 (lv_at hl 9 rfl) ?_
                    refine c_Vi (pc := 253) (As := [.int (nI h), .int kw, .int oz, .int (nI (fj + 1)), .int bu, .int ca]) (rest := [.int x7_1]) (wr := []) X hW 0 ciX12 rfl (hrec (by omega) fb34_1 bu ca hca) vX12_301 [0, 1, 2, 3, 4, 5, 6, 7, 8, 9, 10] [] rfl rfl rfl rfl rfl rfl hl.1 rfl (Nat.le_of_ble_eq_true rfl) ⟨by show _ ≤ dd + 1; omega, by show _ ≤ 40 * (dd + 1); omega⟩ ⟨Nat.le_of_ble_eq_true rfl, Nat.le_of_ble_eq_true rfl⟩ dX12_tryRow_253 (fun r50 u9 H locs hq hW => ?_)
                    obtain ⟨rfl, rfl⟩ := hq
                    have hW : WD g A s _ _ [(h0, .inr (12, vs)), (b6, .inl (g.2.1 1, 11, .inl rP)), (b7, .inl (g.2.1 1, 11, .inl rL)), (b8, .inl (g.2.1 1, 11, .inl rD)), (b12, .inl (g.2.1 1, 132, .inl rA)), (b13, .inl (g.2.1 1, 132, .inl rB)), (b14, .inl (g.2.1 1, 132, .inl rF)), (b15, .inl (g.2.1 1, 132, .inl rT)), (b16, .inl (g.2.1 1, 132, .inl rW)), (b17, .inl (g.2.1 3, 132, .inl rO)), (b34, .inl (g.2.1 0, 425984, .inl ((R (fj + 1) bu ca fb34_1).2)))] := hW
                    refine va_mmin (pc := 256) hx hb (X.2.2.1.trans hl.1.symm) X.2.2.2.1 (X.2.2.2.2.1 _ mm_X12_256) (X.2.2.2.2.1 _ mms_min) (X.2.2.2.2.1 _ m_19) (X.2.2.2.2.1 _ mmc_min) (by show _ ≤ dd + 1; omega) (Nat.le_trans (m := 40 * 2) (Nat.le_of_ble_eq_true rfl) (by show 40 * 2 ≤ 40 * (dd + 1); omega)) (Nat.le_of_ble_eq_true rfl) (Nat.le_of_ble_eq_true rfl) dX12_tryRow_256 ?_
                    refine lv_topi (fun v51 ev51 => ?_)
                    obtain rfl : v51 = mn2 x7_1 ((R (fj + 1) bu ca fb34_1).1) := ev51.trans (rfl)
                    have hF : F_X12_tryRow an rD gN i pe kw oz fj bu ca MC ND R = (mn2 x7_1 ((R (fj + 1) bu ca fb34_1).1), ((R (fj + 1) bu ca fb34_1).2)) := hst1.symm.trans (show L1_X12_tryRow an pe kw fj bu ca MC R (fu1 + 1) j1 x7_1 fb34_1 = (mn2 x7_1 ((R (fj + 1) bu ca fb34_1).1), ((R (fj + 1) bu ca fb34_1).2)) from by rw [L1_X12_tryRow, if_neg c35, if_pos c45, if_neg c47])
                    exact e_i (u := [(h0, .inr (12, vs)), (b6, .inl (g.2.1 1, 11, .inl rP)), (b7, .inl (g.2.1 1, 11, .inl rL)), (b8, .inl (g.2.1 1, 11, .inl rD)), (b12, .inl (g.2.1 1, 132, .inl rA)), (b13, .inl (g.2.1 1, 132, .inl rB)), (b14, .inl (g.2.1 1, 132, .inl rF)), (b15, .inl (g.2.1 1, 132, .inl rT)), (b16, .inl (g.2.1 1, 132, .inl rW)), (b17, .inl (g.2.1 3, 132, .inl rO)), (b34, .inl (g.2.1 0, 425984, .inl ((R (fj + 1) bu ca fb34_1).2)))]) X hQ hr (hW) [0, 1, 2, 3, 4, 5, 6, 7, 8, 9, 10] rfl rfl (⟨(congrArg Prod.fst hF).symm, by rw [hF]⟩) ⟨Nat.le_of_ble_eq_true rfl, Nat.le_of_ble_eq_true rfl⟩ dX12_tryRow_259
                  · refine lv_iconst (v := 0) (pc := 235) hx hb dX12_tryRow_235 (by decide) ?_
                    refine lv_goto (tgt := 259) (pc := 236) hx hb dX12_tryRow_236 rfl ?_
                    have hF : F_X12_tryRow an rD gN i pe kw oz fj bu ca MC ND R = ((0 : Int32), fb34_1) := hst1.symm.trans (show L1_X12_tryRow an pe kw fj bu ca MC R (fu1 + 1) j1 x7_1 fb34_1 = ((0 : Int32), fb34_1) from by rw [L1_X12_tryRow, if_neg c35, if_pos c45, if_pos c47])
                    exact e_i (u := [(h0, .inr (12, vs)), (b6, .inl (g.2.1 1, 11, .inl rP)), (b7, .inl (g.2.1 1, 11, .inl rL)), (b8, .inl (g.2.1 1, 11, .inl rD)), (b12, .inl (g.2.1 1, 132, .inl rA)), (b13, .inl (g.2.1 1, 132, .inl rB)), (b14, .inl (g.2.1 1, 132, .inl rF)), (b15, .inl (g.2.1 1, 132, .inl rT)), (b16, .inl (g.2.1 1, 132, .inl rW)), (b17, .inl (g.2.1 3, 132, .inl rO)), (b34, .inl (g.2.1 0, 425984, .inl fb34_1))]) X hQ hr (hW) [0, 1, 2, 3, 4, 5, 6, 7, 8, 9, 10] rfl rfl (⟨(congrArg Prod.fst hF).symm, by rw [hF]⟩) ⟨Nat.le_of_ble_eq_true rfl, Nat.le_of_ble_eq_true rfl⟩ dX12_tryRow_259
                · refine lv_iload (pc := 143) hx hb dX12_tryRow_143 (lv_at hl 0 rfl) ?_
                  refine lv_iload (pc := 145) hx hb dX12_tryRow_145 (lv_at hl 7 rfl) ?_
                  refine lv_icmp_eq (tgt := 224) (pc := 147) hx hb dX12_tryRow_147 rfl (fun c54 => ?_) (fun c54 => ?_)
                  · have h55 : j1 = fj := (nI_eq (a := j1) (b := fj) (by omega) (by omega)).mp c54
                    refine lv_iinc (v := nI (j1 + 1)) (lv' := [(9, .int (nI (j1 + 1))), (8, .int 1), (7, .int x7_1), (0, .ref h0), (1, .int (nI h)), (2, .int kw), (3, .int oz), (4, .int (nI fj)), (5, .int bu), (6, .int ca)]) (pc := 224) hx hb dX12_tryRow_224 hl (k := 0) rfl (nI_add j1 1) (by decide) rfl (fun ls hl => ?_)
                    refine lv_goto (tgt := 119) (pc := 227) hx hb dX12_tryRow_227 rfl ?_
                    exact ih1 (j1 + 1) x7_1 fb34_1 (by omega) (by omega) ((show L1_X12_tryRow an pe kw fj bu ca MC R (fu1 + 1) j1 x7_1 fb34_1 = L1_X12_tryRow an pe kw fj bu ca MC R fu1 (j1 + 1) x7_1 fb34_1 from by rw [L1_X12_tryRow, if_neg c35, if_neg c45, if_pos c54]).symm.trans hst1) _ _ _ hW (lv_sub hl [0, 1, 2, 3, 4, 5, 6, 7, 8, 9] rfl)
                  · have h56 : ¬ (j1 = fj) := fun q => c54 ((nI_eq (a := j1) (b := fj) (by omega) (by omega)).mpr q)
                    refine lv_iload (pc := 150) hx hb dX12_tryRow_150 (lv_at hl 8 rfl) ?_
                    refine lv_aload_n (pc := 152) hx hb dX12_tryRow_152 rfl (lv_at hl 3 rfl) ?_
                    refine r_get X hW 0 ciX12 39 rfl (by decide) m_1270 rfl h39_ dX12_tryRow_153 ?_
                    refine lv_ior (pc := 156) hx hb dX12_tryRow_156 ?_
                    refine lv_iload_n (pc := 157) hx hb dX12_tryRow_157 rfl (lv_at hl 5 rfl) ?_
                    refine lv_ior (pc := 158) hx hb dX12_tryRow_158 ?_
                    refine lv_iload (pc := 159) hx hb dX12_tryRow_159 (lv_at hl 0 rfl) ?_
                    refine lv_ishr (pc := 161) hx hb dX12_tryRow_161 ?_
                    refine lv_iconst (v := 1) (pc := 162) hx hb dX12_tryRow_162 (by decide) ?_
                    refine lv_iand (pc := 163) hx hb dX12_tryRow_163 ?_
                    refine lv_iconst (v := 1) (pc := 164) hx hb dX12_tryRow_164 (by decide) ?_
                    refine lv_icmp_eq (tgt := 224) (pc := 165) hx hb dX12_tryRow_165 rfl (fun c57 => ?_) (fun c57 => ?_)
                    · refine lv_iinc (v := nI (j1 + 1)) (lv' := [(9, .int (nI (j1 + 1))), (8, .int 1), (7, .int x7_1), (0, .ref h0), (1, .int (nI h)), (2, .int kw), (3, .int oz), (4, .int (nI fj)), (5, .int bu), (6, .int ca)]) (pc := 224) hx hb dX12_tryRow_224 hl (k := 0) rfl (nI_add j1 1) (by decide) rfl (fun ls hl => ?_)
                      refine lv_goto (tgt := 119) (pc := 227) hx hb dX12_tryRow_227 rfl ?_
                      exact ih1 (j1 + 1) x7_1 fb34_1 (by omega) (by omega) ((show L1_X12_tryRow an pe kw fj bu ca MC R (fu1 + 1) j1 x7_1 fb34_1 = L1_X12_tryRow an pe kw fj bu ca MC R fu1 (j1 + 1) x7_1 fb34_1 from by rw [L1_X12_tryRow, if_neg c35, if_neg c45, if_neg c54, if_pos c57]).symm.trans hst1) _ _ _ hW (lv_sub hl [0, 1, 2, 3, 4, 5, 6, 7, 8, 9] rfl)
                    · refine lv_aload_n (pc := 168) hx hb dX12_tryRow_168 rfl (lv_at hl 3 rfl) ?_
                      refine lv_aload_n (pc := 169) hx hb dX12_tryRow_169 rfl (lv_at hl 3 rfl) ?_
                      refine r_get X hW 0 ciX12 37 rfl (by decide) m_1268 rfl h37_ dX12_tryRow_170 ?_
                      refine lv_iload (pc := 173) hx hb dX12_tryRow_173 (lv_at hl 7 rfl) ?_
                      refine lv_iload (pc := 175) hx hb dX12_tryRow_175 (lv_at hl 0 rfl) ?_
                      refine lv_iload_n (pc := 177) hx hb dX12_tryRow_177 rfl (lv_at hl 4 rfl) ?_
                      refine c_Vi (pc := 178) (As := [.int (nI i), .int (nI fj), .int (nI j1), .int (nI h)]) (rest := []) (wr := [(b6, .inl (g.2.1 1, 11, .inl rP)), (b8, .inl (g.2.1 1, 11, .inl rD)), (b34, .inl (g.2.1 0, 425984, .inl fb34_1))]) X hW 0 ciX12 rfl (hMC fj j1 (by omega) (by omega)) vX12_240 [0, 2, 4, 5, 6, 7, 8, 9] [1, 3, 10] rfl rfl rfl rfl rfl rfl hl.1 rfl (Nat.le_of_ble_eq_true rfl) ⟨by show _ ≤ dd + 1; omega, by show _ ≤ 40 * (dd + 1); omega⟩ ⟨Nat.le_of_ble_eq_true rfl, Nat.le_of_ble_eq_true rfl⟩ dX12_tryRow_178 (fun r60 u9 H locs hq hW => ?_)
                      obtain ⟨rfl, rfl⟩ := hq
                      have hW : WD g A s _ _ [(b6, .inl (g.2.1 1, 11, .inl rP)), (b8, .inl (g.2.1 1, 11, .inl rD)), (b34, .inl (g.2.1 0, 425984, .inl fb34_1)), (h0, .inr (12, vs)), (b7, .inl (g.2.1 1, 11, .inl rL)), (b12, .inl (g.2.1 1, 132, .inl rA)), (b13, .inl (g.2.1 1, 132, .inl rB)), (b14, .inl (g.2.1 1, 132, .inl rF)), (b15, .inl (g.2.1 1, 132, .inl rT)), (b16, .inl (g.2.1 1, 132, .inl rW)), (b17, .inl (g.2.1 3, 132, .inl rO))] := hW
                      refine lv_if_ne (tgt := 187) (pc := 181) hx hb dX12_tryRow_181 rfl (fun c61 => ?_) (fun c61 => ?_)
                      · refine lv_iload (pc := 187) hx hb dX12_tryRow_187 (lv_at hl 2 rfl) ?_
                        refine lv_aload_n (pc := 189) hx hb dX12_tryRow_189 rfl (lv_at hl 3 rfl) ?_
                        refine lv_iload_n (pc := 190) hx hb dX12_tryRow_190 rfl (lv_at hl 4 rfl) ?_
                        refine lv_iload_n (pc := 191) hx hb dX12_tryRow_191 rfl (lv_at hl 5 rfl) ?_
                        refine lv_iload_n (pc := 192) hx hb dX12_tryRow_192 rfl (lv_at hl 6 rfl) ?_
                        refine lv_iload (pc := 193) hx hb dX12_tryRow_193 (lv_at hl 7 rfl) ?_
                        refine lv_iconst (v := 1) (pc := 195) hx hb dX12_tryRow_195 (by decide) ?_
                        refine lv_iadd (pc := 196) hx hb dX12_tryRow_196 ?_
                        refine lv_topi (fun v63 ev63 => ?_)
                        obtain rfl : v63 = nI (fj + 1) := ev63.trans (nI_add fj 1)
                        refine lv_iload (pc := 197) hx hb dX12_tryRow_197 (lv_at hl 8 rfl) ?_
                        refine lv_iconst (v := 1) (pc := 199) hx hb dX12_tryRow_199 (by decide) ?_
                        refine lv_iload (pc := 200) hx hb dX12_tryRow_200 (lv_at hl 7 rfl) ?_
                        refine lv_ishl (pc := 202) hx hb dX12_tryRow_202 ?_
                        refine lv_ior (pc := 203) hx hb dX12_tryRow_203 ?_
                        refine lv_iconst (v := 1) (pc := 204) hx hb dX12_tryRow_204 (by decide) ?_
                        refine lv_iload (pc := 205) hx hb dX12_tryRow_205 (lv_at hl 0 rfl) ?_
                        refine lv_ishl (pc := 207) hx hb dX12_tryRow_207 ?_
                        refine lv_ior (pc := 208) hx hb dX12_tryRow_208 ?_
                        refine lv_iload (pc := 209) hx hb dX12_tryRow_209 (lv_at hl 9 rfl) ?_
                        refine lv_iconst (v := 1) (pc := 211) hx hb dX12_tryRow_211 (by decide) ?_
                        refine lv_iload (pc := 212) hx hb dX12_tryRow_212 (lv_at hl 0 rfl) ?_
                        refine lv_ishl (pc := 214) hx hb dX12_tryRow_214 ?_
                        refine lv_ior (pc := 215) hx hb dX12_tryRow_215 ?_
                        refine c_Vi (pc := 216) (As := [.int (nI h), .int kw, .int oz, .int (nI (fj + 1)), .int ((bu ||| ((1 : Int32) <<< ((nI fj) &&& 31))) ||| ((1 : Int32) <<< ((nI j1) &&& 31))), .int (ca ||| ((1 : Int32) <<< ((nI j1) &&& 31)))]) (rest := [.int x7_1]) (wr := []) X hW 3 ciX12 rfl (hrec (by omega) fb34_1 ((bu ||| ((1 : Int32) <<< ((nI fj) &&& 31))) ||| ((1 : Int32) <<< ((nI j1) &&& 31))) (ca ||| ((1 : Int32) <<< ((nI j1) &&& 31))) (s7_or hca (s7_b1 (by omega)))) vX12_301 [3, 0, 4, 1, 5, 6, 7, 8, 9, 10, 2] [] rfl rfl rfl rfl rfl rfl hl.1 rfl (Nat.le_of_ble_eq_true rfl) ⟨by show _ ≤ dd + 1; omega, by show _ ≤ 40 * (dd + 1); omega⟩ ⟨Nat.le_of_ble_eq_true rfl, Nat.le_of_ble_eq_true rfl⟩ dX12_tryRow_216 (fun r64 u9 H locs hq hW => ?_)
                        obtain ⟨rfl, rfl⟩ := hq
                        have hW : WD g A s _ _ [(h0, .inr (12, vs)), (b6, .inl (g.2.1 1, 11, .inl rP)), (b7, .inl (g.2.1 1, 11, .inl rL)), (b8, .inl (g.2.1 1, 11, .inl rD)), (b12, .inl (g.2.1 1, 132, .inl rA)), (b13, .inl (g.2.1 1, 132, .inl rB)), (b14, .inl (g.2.1 1, 132, .inl rF)), (b15, .inl (g.2.1 1, 132, .inl rT)), (b16, .inl (g.2.1 1, 132, .inl rW)), (b17, .inl (g.2.1 3, 132, .inl rO)), (b34, .inl (g.2.1 0, 425984, .inl ((R (fj + 1) ((bu ||| ((1 : Int32) <<< ((nI fj) &&& 31))) ||| ((1 : Int32) <<< ((nI j1) &&& 31))) (ca ||| ((1 : Int32) <<< ((nI j1) &&& 31))) fb34_1).2)))] := hW
                        refine va_mmin (pc := 219) hx hb (X.2.2.1.trans hl.1.symm) X.2.2.2.1 (X.2.2.2.2.1 _ mm_X12_219) (X.2.2.2.2.1 _ mms_min) (X.2.2.2.2.1 _ m_19) (X.2.2.2.2.1 _ mmc_min) (by show _ ≤ dd + 1; omega) (Nat.le_trans (m := 40 * 2) (Nat.le_of_ble_eq_true rfl) (by show 40 * 2 ≤ 40 * (dd + 1); omega)) (Nat.le_of_ble_eq_true rfl) (Nat.le_of_ble_eq_true rfl) dX12_tryRow_219 ?_
                        refine lv_topi (fun v65 ev65 => ?_)
                        obtain rfl : v65 = mn2 x7_1 ((R (fj + 1) ((bu ||| ((1 : Int32) <<< ((nI fj) &&& 31))) ||| ((1 : Int32) <<< ((nI j1) &&& 31))) (ca ||| ((1 : Int32) <<< ((nI j1) &&& 31))) fb34_1).1) := ev65.trans (rfl)
                        refine lv_istore (lv' := [(7, .int (mn2 x7_1 ((R (fj + 1) ((bu ||| ((1 : Int32) <<< ((nI fj) &&& 31))) ||| ((1 : Int32) <<< ((nI j1) &&& 31))) (ca ||| ((1 : Int32) <<< ((nI j1) &&& 31))) fb34_1).1))), (9, .int (nI j1)), (8, .int 1), (0, .ref h0), (1, .int (nI h)), (2, .int kw), (3, .int oz), (4, .int (nI fj)), (5, .int bu), (6, .int ca)]) (pc := 222) hx hb dX12_tryRow_222 hl (by decide) rfl (fun ls hl => ?_)
                        refine lv_iinc (v := nI (j1 + 1)) (lv' := [(9, .int (nI (j1 + 1))), (7, .int (mn2 x7_1 ((R (fj + 1) ((bu ||| ((1 : Int32) <<< ((nI fj) &&& 31))) ||| ((1 : Int32) <<< ((nI j1) &&& 31))) (ca ||| ((1 : Int32) <<< ((nI j1) &&& 31))) fb34_1).1))), (8, .int 1), (0, .ref h0), (1, .int (nI h)), (2, .int kw), (3, .int oz), (4, .int (nI fj)), (5, .int bu), (6, .int ca)]) (pc := 224) hx hb dX12_tryRow_224 hl (k := 1) rfl (nI_add j1 1) (by decide) rfl (fun ls hl => ?_)
                        refine lv_goto (tgt := 119) (pc := 227) hx hb dX12_tryRow_227 rfl ?_
                        exact ih1 (j1 + 1) (mn2 x7_1 ((R (fj + 1) ((bu ||| ((1 : Int32) <<< ((nI fj) &&& 31))) ||| ((1 : Int32) <<< ((nI j1) &&& 31))) (ca ||| ((1 : Int32) <<< ((nI j1) &&& 31))) fb34_1).1)) ((R (fj + 1) ((bu ||| ((1 : Int32) <<< ((nI fj) &&& 31))) ||| ((1 : Int32) <<< ((nI j1) &&& 31))) (ca ||| ((1 : Int32) <<< ((nI j1) &&& 31))) fb34_1).2) (by omega) (by omega) ((show L1_X12_tryRow an pe kw fj bu ca MC R (fu1 + 1) j1 x7_1 fb34_1 = L1_X12_tryRow an pe kw fj bu ca MC R fu1 (j1 + 1) (mn2 x7_1 ((R (fj + 1) ((bu ||| ((1 : Int32) <<< ((nI fj) &&& 31))) ||| ((1 : Int32) <<< ((nI j1) &&& 31))) (ca ||| ((1 : Int32) <<< ((nI j1) &&& 31))) fb34_1).1)) ((R (fj + 1) ((bu ||| ((1 : Int32) <<< ((nI fj) &&& 31))) ||| ((1 : Int32) <<< ((nI j1) &&& 31))) (ca ||| ((1 : Int32) <<< ((nI j1) &&& 31))) fb34_1).2) from by rw [L1_X12_tryRow, if_neg c35, if_neg c45, if_neg c54, if_neg c57, if_neg c61]).symm.trans hst1) _ _ _ hW (lv_sub hl [0, 2, 1, 3, 4, 5, 6, 7, 8, 9] rfl)
                      · refine lv_goto (tgt := 224) (pc := 184) hx hb dX12_tryRow_184 rfl ?_
                        refine lv_iinc (v := nI (j1 + 1)) (lv' := [(9, .int (nI (j1 + 1))), (8, .int 1), (7, .int x7_1), (0, .ref h0), (1, .int (nI h)), (2, .int kw), (3, .int oz), (4, .int (nI fj)), (5, .int bu), (6, .int ca)]) (pc := 224) hx hb dX12_tryRow_224 hl (k := 0) rfl (nI_add j1 1) (by decide) rfl (fun ls hl => ?_)
                        refine lv_goto (tgt := 119) (pc := 227) hx hb dX12_tryRow_227 rfl ?_
                        have hW : WD g A s _ _ [(h0, .inr (12, vs)), (b6, .inl (g.2.1 1, 11, .inl rP)), (b7, .inl (g.2.1 1, 11, .inl rL)), (b8, .inl (g.2.1 1, 11, .inl rD)), (b12, .inl (g.2.1 1, 132, .inl rA)), (b13, .inl (g.2.1 1, 132, .inl rB)), (b14, .inl (g.2.1 1, 132, .inl rF)), (b15, .inl (g.2.1 1, 132, .inl rT)), (b16, .inl (g.2.1 1, 132, .inl rW)), (b17, .inl (g.2.1 3, 132, .inl rO)), (b34, .inl (g.2.1 0, 425984, .inl fb34_1))] := hW.pick [3, 0, 4, 1, 5, 6, 7, 8, 9, 10, 2] rfl rfl
                        exact ih1 (j1 + 1) x7_1 fb34_1 (by omega) (by omega) ((show L1_X12_tryRow an pe kw fj bu ca MC R (fu1 + 1) j1 x7_1 fb34_1 = L1_X12_tryRow an pe kw fj bu ca MC R fu1 (j1 + 1) x7_1 fb34_1 from by rw [L1_X12_tryRow, if_neg c35, if_neg c45, if_neg c54, if_neg c57, if_pos c61]).symm.trans hst1) _ _ _ hW (lv_sub hl [0, 1, 2, 3, 4, 5, 6, 7, 8, 9] rfl)
          exact loop1 (pe + 1) 0 (99 : Int32) gN (by omega) (by omega) (show F_X12_tryRow an rD gN i pe kw oz fj bu ca MC ND R = L1_X12_tryRow an pe kw fj bu ca MC R (pe + 1) 0 (99 : Int32) gN from by rw [F_X12_tryRow, if_neg c2, if_pos c4, if_pos c14, if_pos c24]).symm _ _ _ hW (lv_sub hl [0, 1, 2, 3, 4, 5, 6, 7, 8, 9] rfl)
  · have h67 : fj = pe := (nI_eq (a := fj) (b := pe) (by omega) (by omega)).mp c2
    refine lv_iload (pc := 14) hx hb dX12_tryRow_14 (lv_at hl 6 rfl) ?_
    refine lv_iload_n (pc := 16) hx hb dX12_tryRow_16 rfl (lv_at hl 2 rfl) ?_
    refine lv_iconst (v := (-1)) (pc := 17) hx hb dX12_tryRow_17 (by decide) ?_
    refine lv_ixor (pc := 18) hx hb dX12_tryRow_18 ?_
    refine lv_iand (pc := 19) hx hb dX12_tryRow_19 ?_
    refine lv_istore (lv' := [(7, .int (ca &&& (kw ^^^ (-1 : Int32)))), (0, .ref h0), (1, .int (nI h)), (2, .int kw), (3, .int oz), (4, .int (nI fj)), (5, .int bu), (6, .int ca)]) (pc := 20) hx hb dX12_tryRow_20 hl (by decide) rfl (fun ls hl => ?_)
    refine lv_iload (pc := 22) hx hb dX12_tryRow_22 (lv_at hl 0 rfl) ?_
    refine lv_aload_n (pc := 24) hx hb dX12_tryRow_24 rfl (lv_at hl 1 rfl) ?_
    refine r_get X hW 0 ciX12 8 rfl (by decide) m_1239 rfl h8_ dX12_tryRow_25 ?_
    refine lv_aload_n (pc := 28) hx hb dX12_tryRow_28 rfl (lv_at hl 1 rfl) ?_
    refine r_get X hW 0 ciX12 37 rfl (by decide) m_1268 rfl h37_ dX12_tryRow_29 ?_
    refine r_iald X hW 3 rfl (vp_in_nI (by omega) (by decide)) dX12_tryRow_32 ?_
    refine lv_topi (fun v68 ev68 => ?_)
    obtain rfl : v68 = rD i := ev68.trans (by rw [nI_clamp (by omega)])
    refine lv_iconst (v := (-1)) (pc := 33) hx hb dX12_tryRow_33 (by decide) ?_
    refine lv_ixor (pc := 34) hx hb dX12_tryRow_34 ?_
    refine lv_iload_n (pc := 35) hx hb dX12_tryRow_35 rfl (lv_at hl 4 rfl) ?_
    refine lv_ior (pc := 36) hx hb dX12_tryRow_36 ?_
    refine lv_iand (pc := 37) hx hb dX12_tryRow_37 ?_
    refine lv_istore (lv' := [(8, .int ((ca &&& (kw ^^^ (-1 : Int32))) &&& (((rD i) ^^^ (-1 : Int32)) ||| oz))), (7, .int (ca &&& (kw ^^^ (-1 : Int32)))), (0, .ref h0), (1, .int (nI h)), (2, .int kw), (3, .int oz), (4, .int (nI fj)), (5, .int bu), (6, .int ca)]) (pc := 38) hx hb dX12_tryRow_38 hl (by decide) rfl (fun ls hl => ?_)
    refine lv_aload_n (pc := 40) hx hb dX12_tryRow_40 rfl (lv_at hl 2 rfl) ?_
    refine lv_iload_n (pc := 41) hx hb dX12_tryRow_41 rfl (lv_at hl 3 rfl) ?_
    refine lv_iconst (v := 1) (pc := 42) hx hb dX12_tryRow_42 (by decide) ?_
    refine lv_iadd (pc := 43) hx hb dX12_tryRow_43 ?_
    refine lv_topi (fun v69 ev69 => ?_)
    obtain rfl : v69 = nI (h + 1) := ev69.trans (nI_add h 1)
    refine lv_iload_n (pc := 44) hx hb dX12_tryRow_44 rfl (lv_at hl 4 rfl) ?_
    refine lv_iload (pc := 45) hx hb dX12_tryRow_45 (lv_at hl 0 rfl) ?_
    refine lv_ior (pc := 47) hx hb dX12_tryRow_47 ?_
    refine lv_iload_n (pc := 48) hx hb dX12_tryRow_48 rfl (lv_at hl 5 rfl) ?_
    refine lv_iload (pc := 49) hx hb dX12_tryRow_49 (lv_at hl 1 rfl) ?_
    refine lv_ior (pc := 51) hx hb dX12_tryRow_51 ?_
    refine lv_aload_n (pc := 52) hx hb dX12_tryRow_52 rfl (lv_at hl 2 rfl) ?_
    refine r_get X hW 0 ciX12 8 rfl (by decide) m_1239 rfl h8_ dX12_tryRow_53 ?_
    refine lv_aload_n (pc := 56) hx hb dX12_tryRow_56 rfl (lv_at hl 2 rfl) ?_
    refine r_get X hW 0 ciX12 37 rfl (by decide) m_1268 rfl h37_ dX12_tryRow_57 ?_
    refine r_iald X hW 3 rfl (vp_in_nI (by omega) (by decide)) dX12_tryRow_60 ?_
    refine lv_topi (fun v70 ev70 => ?_)
    obtain rfl : v70 = rD i := ev70.trans (by rw [nI_clamp (by omega)])
    refine lv_iand (pc := 61) hx hb dX12_tryRow_61 ?_
    refine lv_iload_n (pc := 62) hx hb dX12_tryRow_62 rfl (lv_at hl 4 rfl) ?_
    refine lv_iload (pc := 63) hx hb dX12_tryRow_63 (lv_at hl 0 rfl) ?_
    refine lv_ior (pc := 65) hx hb dX12_tryRow_65 ?_
    refine lv_iconst (v := (-1)) (pc := 66) hx hb dX12_tryRow_66 (by decide) ?_
    refine lv_ixor (pc := 67) hx hb dX12_tryRow_67 ?_
    refine lv_iand (pc := 68) hx hb dX12_tryRow_68 ?_
    refine c_Vi (pc := 69) (As := [.int (nI (h + 1)), .int (kw ||| ((ca &&& (kw ^^^ (-1 : Int32))) &&& (((rD i) ^^^ (-1 : Int32)) ||| oz))), .int (((oz ||| (ca &&& (kw ^^^ (-1 : Int32)))) &&& (rD i)) &&& ((kw ||| ((ca &&& (kw ^^^ (-1 : Int32))) &&& (((rD i) ^^^ (-1 : Int32)) ||| oz))) ^^^ (-1 : Int32)))]) (rest := []) (wr := []) X hW 0 ciX12 rfl (hnd gN (kw ||| ((ca &&& (kw ^^^ (-1 : Int32))) &&& (((rD i) ^^^ (-1 : Int32)) ||| oz))) (((oz ||| (ca &&& (kw ^^^ (-1 : Int32)))) &&& (rD i)) &&& ((kw ||| ((ca &&& (kw ^^^ (-1 : Int32))) &&& (((rD i) ^^^ (-1 : Int32)) ||| oz))) ^^^ (-1 : Int32))) (s7_or hkw (s7_al (s7_al hca))) (s7_al (s7_al (s7_or hoz (s7_al hca))))) vX12_305 [0, 1, 2, 3, 4, 5, 6, 7, 8, 9, 10] [] rfl rfl rfl rfl rfl rfl hl.1 rfl (Nat.le_of_ble_eq_true rfl) ⟨by show _ ≤ dd + 1; omega, by show _ ≤ 40 * (dd + 1); omega⟩ ⟨Nat.le_of_ble_eq_true rfl, Nat.le_of_ble_eq_true rfl⟩ dX12_tryRow_69 (fun r71 u9 H locs hq hW => ?_)
    obtain ⟨rfl, rfl⟩ := hq
    have hW : WD g A s _ _ [(h0, .inr (12, vs)), (b6, .inl (g.2.1 1, 11, .inl rP)), (b7, .inl (g.2.1 1, 11, .inl rL)), (b8, .inl (g.2.1 1, 11, .inl rD)), (b12, .inl (g.2.1 1, 132, .inl rA)), (b13, .inl (g.2.1 1, 132, .inl rB)), (b14, .inl (g.2.1 1, 132, .inl rF)), (b15, .inl (g.2.1 1, 132, .inl rT)), (b16, .inl (g.2.1 1, 132, .inl rW)), (b17, .inl (g.2.1 3, 132, .inl rO)), (b34, .inl (g.2.1 0, 425984, .inl ((ND (kw ||| ((ca &&& (kw ^^^ (-1 : Int32))) &&& (((rD i) ^^^ (-1 : Int32)) ||| oz))) (((oz ||| (ca &&& (kw ^^^ (-1 : Int32)))) &&& (rD i)) &&& ((kw ||| ((ca &&& (kw ^^^ (-1 : Int32))) &&& (((rD i) ^^^ (-1 : Int32)) ||| oz))) ^^^ (-1 : Int32))) gN).2)))] := hW
    have hF : F_X12_tryRow an rD gN i pe kw oz fj bu ca MC ND R = ((ND (kw ||| ((ca &&& (kw ^^^ (-1 : Int32))) &&& (((rD i) ^^^ (-1 : Int32)) ||| oz))) (((oz ||| (ca &&& (kw ^^^ (-1 : Int32)))) &&& (rD i)) &&& ((kw ||| ((ca &&& (kw ^^^ (-1 : Int32))) &&& (((rD i) ^^^ (-1 : Int32)) ||| oz))) ^^^ (-1 : Int32))) gN).1, ((ND (kw ||| ((ca &&& (kw ^^^ (-1 : Int32))) &&& (((rD i) ^^^ (-1 : Int32)) ||| oz))) (((oz ||| (ca &&& (kw ^^^ (-1 : Int32)))) &&& (rD i)) &&& ((kw ||| ((ca &&& (kw ^^^ (-1 : Int32))) &&& (((rD i) ^^^ (-1 : Int32)) ||| oz))) ^^^ (-1 : Int32))) gN).2)) := show F_X12_tryRow an rD gN i pe kw oz fj bu ca MC ND R = ((ND (kw ||| ((ca &&& (kw ^^^ (-1 : Int32))) &&& (((rD i) ^^^ (-1 : Int32)) ||| oz))) (((oz ||| (ca &&& (kw ^^^ (-1 : Int32)))) &&& (rD i)) &&& ((kw ||| ((ca &&& (kw ^^^ (-1 : Int32))) &&& (((rD i) ^^^ (-1 : Int32)) ||| oz))) ^^^ (-1 : Int32))) gN).1, ((ND (kw ||| ((ca &&& (kw ^^^ (-1 : Int32))) &&& (((rD i) ^^^ (-1 : Int32)) ||| oz))) (((oz ||| (ca &&& (kw ^^^ (-1 : Int32)))) &&& (rD i)) &&& ((kw ||| ((ca &&& (kw ^^^ (-1 : Int32))) &&& (((rD i) ^^^ (-1 : Int32)) ||| oz))) ^^^ (-1 : Int32))) gN).2)) from by rw [F_X12_tryRow, if_pos c2]
    exact e_i (u := [(h0, .inr (12, vs)), (b6, .inl (g.2.1 1, 11, .inl rP)), (b7, .inl (g.2.1 1, 11, .inl rL)), (b8, .inl (g.2.1 1, 11, .inl rD)), (b12, .inl (g.2.1 1, 132, .inl rA)), (b13, .inl (g.2.1 1, 132, .inl rB)), (b14, .inl (g.2.1 1, 132, .inl rF)), (b15, .inl (g.2.1 1, 132, .inl rT)), (b16, .inl (g.2.1 1, 132, .inl rW)), (b17, .inl (g.2.1 3, 132, .inl rO)), (b34, .inl (g.2.1 0, 425984, .inl ((ND (kw ||| ((ca &&& (kw ^^^ (-1 : Int32))) &&& (((rD i) ^^^ (-1 : Int32)) ||| oz))) (((oz ||| (ca &&& (kw ^^^ (-1 : Int32)))) &&& (rD i)) &&& ((kw ||| ((ca &&& (kw ^^^ (-1 : Int32))) &&& (((rD i) ^^^ (-1 : Int32)) ||| oz))) ^^^ (-1 : Int32))) gN).2)))]) X hQ hr (hW) [0, 1, 2, 3, 4, 5, 6, 7, 8, 9, 10] rfl rfl (⟨(congrArg Prod.fst hF).symm, by rw [hF]⟩) ⟨Nat.le_of_ble_eq_true rfl, Nat.le_of_ble_eq_true rfl⟩ dX12_tryRow_72

def F_X12_tryRowL (rD : Nat → Int32) (gN : Nat → Int32) (i : Nat) (kw : Int32) (oz : Int32) (ca : Int32) (ND : NDT) : Int32 × (Nat → Int32) := ((ND (kw ||| ((ca &&& (kw ^^^ (-1 : Int32))) &&& (((rD i) ^^^ (-1 : Int32)) ||| oz))) (((oz ||| (ca &&& (kw ^^^ (-1 : Int32)))) &&& (rD i)) &&& ((kw ||| ((ca &&& (kw ^^^ (-1 : Int32))) &&& (((rD i) ^^^ (-1 : Int32)) ||| oz))) ^^^ (-1 : Int32))) gN).1, ((ND (kw ||| ((ca &&& (kw ^^^ (-1 : Int32))) &&& (((rD i) ^^^ (-1 : Int32)) ||| oz))) (((oz ||| (ca &&& (kw ^^^ (-1 : Int32)))) &&& (rD i)) &&& ((kw ||| ((ca &&& (kw ^^^ (-1 : Int32))) &&& (((rD i) ^^^ (-1 : Int32)) ||| oz))) ^^^ (-1 : Int32))) gN).2))
set_option maxHeartbeats 4000000 in
set_option maxRecDepth 100000 in
theorem K_X12_tryRowL (l : Launch) (g : GG) (h0 : Nat) (vs : List Value) (am : Int32) (an : Int32) (b6 : Nat) (rP : Nat → Int32) (b7 : Nat) (rL : Nat → Int32) (b8 : Nat) (rD : Nat → Int32) (b12 : Nat) (rA : Nat → Int32) (b13 : Nat) (rB : Nat → Int32) (b14 : Nat) (rF : Nat → Int32) (b15 : Nat) (rT : Nat → Int32) (b16 : Nat) (rW : Nat → Int32) (b17 : Nat) (rO : Nat → Int32) (b34 : Nat) (gN : Nat → Int32) (i : Nat) (lc : Nat) (pe : Nat) (mA : Int32) (mB : Int32) (h : Nat) (kw : Int32) (oz : Int32) (bu : Int32) (ca : Int32) (ND : NDT) (dd : Nat) (hdd : 0 ≤ dd) (hlen : vs.length = 64) (h38_ : vs[38]? = some (.int am)) (h39_ : vs[39]? = some (.int an)) (h6_ : vs[6]? = some (.ref b6)) (h7_ : vs[7]? = some (.ref b7)) (h8_ : vs[8]? = some (.ref b8)) (h12_ : vs[12]? = some (.ref b12)) (h13_ : vs[13]? = some (.ref b13)) (h14_ : vs[14]? = some (.ref b14)) (h15_ : vs[15]? = some (.ref b15)) (h16_ : vs[16]? = some (.ref b16)) (h17_ : vs[17]? = some (.ref b17)) (h34_ : vs[34]? = some (.ref b34)) (hi : i < 11) (hlc : lc ≤ 12) (hL : rL i = nI lc) (hpe : pe ≤ 7) (hP : rP i = nI pe) (h37_ : vs[37]? = some (.int (nI i))) (h19_ : vs[19]? = some (.int mA)) (h20_ : vs[20]? = some (.int mB)) (hh : h ≤ 24) (hkw : s7 kw) (hoz : s7 oz) (hca : s7 ca) (hnd : ∀ (N : Nat → Int32) (k o : Int32), s7 k → s7 o → MetI l g yX12_needed cX12_needed 7 (some .int) dd 0 0 [.ref h0, .int (nI (h + 1)), .int k, .int o] [(h0, .inr (12, vs)), (b6, .inl (g.2.1 1, 11, .inl rP)), (b7, .inl (g.2.1 1, 11, .inl rL)), (b8, .inl (g.2.1 1, 11, .inl rD)), (b12, .inl (g.2.1 1, 132, .inl rA)), (b13, .inl (g.2.1 1, 132, .inl rB)), (b14, .inl (g.2.1 1, 132, .inl rF)), (b15, .inl (g.2.1 1, 132, .inl rT)), (b16, .inl (g.2.1 1, 132, .inl rW)), (b17, .inl (g.2.1 3, 132, .inl rO)), (b34, .inl (g.2.1 0, 425984, .inl N))] (fun r u => r = (ND k o N).1 ∧ u = [(h0, .inr (12, vs)), (b6, .inl (g.2.1 1, 11, .inl rP)), (b7, .inl (g.2.1 1, 11, .inl rL)), (b8, .inl (g.2.1 1, 11, .inl rD)), (b12, .inl (g.2.1 1, 132, .inl rA)), (b13, .inl (g.2.1 1, 132, .inl rB)), (b14, .inl (g.2.1 1, 132, .inl rF)), (b15, .inl (g.2.1 1, 132, .inl rT)), (b16, .inl (g.2.1 1, 132, .inl rW)), (b17, .inl (g.2.1 3, 132, .inl rO)), (b34, .inl (g.2.1 0, 425984, .inl ((ND k o N).2)))])) : MetI l g yX12_tryRow cX12_tryRow 10 (some .int) (dd + 1) 0 0 [.ref h0, .int (nI h), .int kw, .int oz, .int (nI pe), .int bu, .int ca] [(h0, .inr (12, vs)), (b6, .inl (g.2.1 1, 11, .inl rP)), (b7, .inl (g.2.1 1, 11, .inl rL)), (b8, .inl (g.2.1 1, 11, .inl rD)), (b12, .inl (g.2.1 1, 132, .inl rA)), (b13, .inl (g.2.1 1, 132, .inl rB)), (b14, .inl (g.2.1 1, 132, .inl rF)), (b15, .inl (g.2.1 1, 132, .inl rT)), (b16, .inl (g.2.1 1, 132, .inl rW)), (b17, .inl (g.2.1 3, 132, .inl rO)), (b34, .inl (g.2.1 0, 425984, .inl gN))] (fun r u => r = (F_X12_tryRowL rD gN i kw oz ca ND).1 ∧ u = [(h0, .inr (12, vs)), (b6, .inl (g.2.1 1, 11, .inl rP)), (b7, .inl (g.2.1 1, 11, .inl rL)), (b8, .inl (g.2.1 1, 11, .inl rD)), (b12, .inl (g.2.1 1, 132, .inl rA)), (b13, .inl (g.2.1 1, 132, .inl rB)), (b14, .inl (g.2.1 1, 132, .inl rF)), (b15, .inl (g.2.1 1, 132, .inl rT)), (b16, .inl (g.2.1 1, 132, .inl rW)), (b17, .inl (g.2.1 3, 132, .inl rO)), (b34, .inl (g.2.1 0, 425984, .inl ((F_X12_tryRowL rD gN i kw oz ca ND).2)))]) := by
  refine MetI.of (own := RX12) rfl (by decide) (Nat.le_of_ble_eq_true rfl) ?_
  intro p e s m below meth c A ls args Q hQ X hr hin hW hl
  have hx := X.1
  have hb := X.2.1
  have hl : lv_has ls 10 [(0, .ref h0), (1, .int (nI h)), (2, .int kw), (3, .int oz), (4, .int (nI pe)), (5, .int bu), (6, .int ca)] := hl
  refine lv_iload (pc := 0) hx hb dX12_tryRow_0 (lv_at hl 4 rfl) ?_
  refine lv_aload_n (pc := 2) hx hb dX12_tryRow_2 rfl (lv_at hl 0 rfl) ?_
  refine r_get X hW 0 ciX12 6 rfl (by decide) m_1237 rfl h6_ dX12_tryRow_3 ?_
  refine lv_aload_n (pc := 6) hx hb dX12_tryRow_6 rfl (lv_at hl 0 rfl) ?_
  refine r_get X hW 0 ciX12 37 rfl (by decide) m_1268 rfl h37_ dX12_tryRow_7 ?_
  refine r_iald X hW 1 rfl (vp_in_nI (by omega) (by decide)) dX12_tryRow_10 ?_
  refine lv_topi (fun v1 ev1 => ?_)
  obtain rfl : v1 = rP i := ev1.trans (by rw [nI_clamp (by omega)])
  rw [hP]
  refine lv_icmp_ne (tgt := 73) (pc := 11) hx hb dX12_tryRow_11 rfl (fun c2 => absurd rfl c2) (fun c2 => ?_)
  refine lv_iload (pc := 14) hx hb dX12_tryRow_14 (lv_at hl 6 rfl) ?_
  refine lv_iload_n (pc := 16) hx hb dX12_tryRow_16 rfl (lv_at hl 2 rfl) ?_
  refine lv_iconst (v := (-1)) (pc := 17) hx hb dX12_tryRow_17 (by decide) ?_
  refine lv_ixor (pc := 18) hx hb dX12_tryRow_18 ?_
  refine lv_iand (pc := 19) hx hb dX12_tryRow_19 ?_
  refine lv_istore (lv' := [(7, .int (ca &&& (kw ^^^ (-1 : Int32)))), (0, .ref h0), (1, .int (nI h)), (2, .int kw), (3, .int oz), (4, .int (nI pe)), (5, .int bu), (6, .int ca)]) (pc := 20) hx hb dX12_tryRow_20 hl (by decide) rfl (fun ls hl => ?_)
  refine lv_iload (pc := 22) hx hb dX12_tryRow_22 (lv_at hl 0 rfl) ?_
  refine lv_aload_n (pc := 24) hx hb dX12_tryRow_24 rfl (lv_at hl 1 rfl) ?_
  refine r_get X hW 0 ciX12 8 rfl (by decide) m_1239 rfl h8_ dX12_tryRow_25 ?_
  refine lv_aload_n (pc := 28) hx hb dX12_tryRow_28 rfl (lv_at hl 1 rfl) ?_
  refine r_get X hW 0 ciX12 37 rfl (by decide) m_1268 rfl h37_ dX12_tryRow_29 ?_
  refine r_iald X hW 3 rfl (vp_in_nI (by omega) (by decide)) dX12_tryRow_32 ?_
  refine lv_topi (fun v3 ev3 => ?_)
  obtain rfl : v3 = rD i := ev3.trans (by rw [nI_clamp (by omega)])
  refine lv_iconst (v := (-1)) (pc := 33) hx hb dX12_tryRow_33 (by decide) ?_
  refine lv_ixor (pc := 34) hx hb dX12_tryRow_34 ?_
  refine lv_iload_n (pc := 35) hx hb dX12_tryRow_35 rfl (lv_at hl 4 rfl) ?_
  refine lv_ior (pc := 36) hx hb dX12_tryRow_36 ?_
  refine lv_iand (pc := 37) hx hb dX12_tryRow_37 ?_
  refine lv_istore (lv' := [(8, .int ((ca &&& (kw ^^^ (-1 : Int32))) &&& (((rD i) ^^^ (-1 : Int32)) ||| oz))), (7, .int (ca &&& (kw ^^^ (-1 : Int32)))), (0, .ref h0), (1, .int (nI h)), (2, .int kw), (3, .int oz), (4, .int (nI pe)), (5, .int bu), (6, .int ca)]) (pc := 38) hx hb dX12_tryRow_38 hl (by decide) rfl (fun ls hl => ?_)
  refine lv_aload_n (pc := 40) hx hb dX12_tryRow_40 rfl (lv_at hl 2 rfl) ?_
  refine lv_iload_n (pc := 41) hx hb dX12_tryRow_41 rfl (lv_at hl 3 rfl) ?_
  refine lv_iconst (v := 1) (pc := 42) hx hb dX12_tryRow_42 (by decide) ?_
  refine lv_iadd (pc := 43) hx hb dX12_tryRow_43 ?_
  refine lv_topi (fun v4 ev4 => ?_)
  obtain rfl : v4 = nI (h + 1) := ev4.trans (nI_add h 1)
  refine lv_iload_n (pc := 44) hx hb dX12_tryRow_44 rfl (lv_at hl 4 rfl) ?_
  refine lv_iload (pc := 45) hx hb dX12_tryRow_45 (lv_at hl 0 rfl) ?_
  refine lv_ior (pc := 47) hx hb dX12_tryRow_47 ?_
  refine lv_iload_n (pc := 48) hx hb dX12_tryRow_48 rfl (lv_at hl 5 rfl) ?_
  refine lv_iload (pc := 49) hx hb dX12_tryRow_49 (lv_at hl 1 rfl) ?_
  refine lv_ior (pc := 51) hx hb dX12_tryRow_51 ?_
  refine lv_aload_n (pc := 52) hx hb dX12_tryRow_52 rfl (lv_at hl 2 rfl) ?_
  refine r_get X hW 0 ciX12 8 rfl (by decide) m_1239 rfl h8_ dX12_tryRow_53 ?_
  refine lv_aload_n (pc := 56) hx hb dX12_tryRow_56 rfl (lv_at hl 2 rfl) ?_
  refine r_get X hW 0 ciX12 37 rfl (by decide) m_1268 rfl h37_ dX12_tryRow_57 ?_
  refine r_iald X hW 3 rfl (vp_in_nI (by omega) (by decide)) dX12_tryRow_60 ?_
  refine lv_topi (fun v5 ev5 => ?_)
  obtain rfl : v5 = rD i := ev5.trans (by rw [nI_clamp (by omega)])
  refine lv_iand (pc := 61) hx hb dX12_tryRow_61 ?_
  refine lv_iload_n (pc := 62) hx hb dX12_tryRow_62 rfl (lv_at hl 4 rfl) ?_
  refine lv_iload (pc := 63) hx hb dX12_tryRow_63 (lv_at hl 0 rfl) ?_
  refine lv_ior (pc := 65) hx hb dX12_tryRow_65 ?_
  refine lv_iconst (v := (-1)) (pc := 66) hx hb dX12_tryRow_66 (by decide) ?_
  refine lv_ixor (pc := 67) hx hb dX12_tryRow_67 ?_
  refine lv_iand (pc := 68) hx hb dX12_tryRow_68 ?_
  refine c_Vi (pc := 69) (As := [.int (nI (h + 1)), .int (kw ||| ((ca &&& (kw ^^^ (-1 : Int32))) &&& (((rD i) ^^^ (-1 : Int32)) ||| oz))), .int (((oz ||| (ca &&& (kw ^^^ (-1 : Int32)))) &&& (rD i)) &&& ((kw ||| ((ca &&& (kw ^^^ (-1 : Int32))) &&& (((rD i) ^^^ (-1 : Int32)) ||| oz))) ^^^ (-1 : Int32)))]) (rest := []) (wr := []) X hW 0 ciX12 rfl (hnd gN (kw ||| ((ca &&& (kw ^^^ (-1 : Int32))) &&& (((rD i) ^^^ (-1 : Int32)) ||| oz))) (((oz ||| (ca &&& (kw ^^^ (-1 : Int32)))) &&& (rD i)) &&& ((kw ||| ((ca &&& (kw ^^^ (-1 : Int32))) &&& (((rD i) ^^^ (-1 : Int32)) ||| oz))) ^^^ (-1 : Int32))) (s7_or hkw (s7_al (s7_al hca))) (s7_al (s7_al (s7_or hoz (s7_al hca))))) vX12_305 [0, 1, 2, 3, 4, 5, 6, 7, 8, 9, 10] [] rfl rfl rfl rfl rfl rfl hl.1 rfl (Nat.le_of_ble_eq_true rfl) ⟨by show _ ≤ dd + 1; omega, by show _ ≤ 40 * (dd + 1); omega⟩ ⟨Nat.le_of_ble_eq_true rfl, Nat.le_of_ble_eq_true rfl⟩ dX12_tryRow_69 (fun r6 u9 H locs hq hW => ?_)
  obtain ⟨rfl, rfl⟩ := hq
  have hW : WD g A s _ _ [(h0, .inr (12, vs)), (b6, .inl (g.2.1 1, 11, .inl rP)), (b7, .inl (g.2.1 1, 11, .inl rL)), (b8, .inl (g.2.1 1, 11, .inl rD)), (b12, .inl (g.2.1 1, 132, .inl rA)), (b13, .inl (g.2.1 1, 132, .inl rB)), (b14, .inl (g.2.1 1, 132, .inl rF)), (b15, .inl (g.2.1 1, 132, .inl rT)), (b16, .inl (g.2.1 1, 132, .inl rW)), (b17, .inl (g.2.1 3, 132, .inl rO)), (b34, .inl (g.2.1 0, 425984, .inl ((ND (kw ||| ((ca &&& (kw ^^^ (-1 : Int32))) &&& (((rD i) ^^^ (-1 : Int32)) ||| oz))) (((oz ||| (ca &&& (kw ^^^ (-1 : Int32)))) &&& (rD i)) &&& ((kw ||| ((ca &&& (kw ^^^ (-1 : Int32))) &&& (((rD i) ^^^ (-1 : Int32)) ||| oz))) ^^^ (-1 : Int32))) gN).2)))] := hW
  have hF : F_X12_tryRowL rD gN i kw oz ca ND = ((ND (kw ||| ((ca &&& (kw ^^^ (-1 : Int32))) &&& (((rD i) ^^^ (-1 : Int32)) ||| oz))) (((oz ||| (ca &&& (kw ^^^ (-1 : Int32)))) &&& (rD i)) &&& ((kw ||| ((ca &&& (kw ^^^ (-1 : Int32))) &&& (((rD i) ^^^ (-1 : Int32)) ||| oz))) ^^^ (-1 : Int32))) gN).1, ((ND (kw ||| ((ca &&& (kw ^^^ (-1 : Int32))) &&& (((rD i) ^^^ (-1 : Int32)) ||| oz))) (((oz ||| (ca &&& (kw ^^^ (-1 : Int32)))) &&& (rD i)) &&& ((kw ||| ((ca &&& (kw ^^^ (-1 : Int32))) &&& (((rD i) ^^^ (-1 : Int32)) ||| oz))) ^^^ (-1 : Int32))) gN).2)) := show F_X12_tryRowL rD gN i kw oz ca ND = ((ND (kw ||| ((ca &&& (kw ^^^ (-1 : Int32))) &&& (((rD i) ^^^ (-1 : Int32)) ||| oz))) (((oz ||| (ca &&& (kw ^^^ (-1 : Int32)))) &&& (rD i)) &&& ((kw ||| ((ca &&& (kw ^^^ (-1 : Int32))) &&& (((rD i) ^^^ (-1 : Int32)) ||| oz))) ^^^ (-1 : Int32))) gN).1, ((ND (kw ||| ((ca &&& (kw ^^^ (-1 : Int32))) &&& (((rD i) ^^^ (-1 : Int32)) ||| oz))) (((oz ||| (ca &&& (kw ^^^ (-1 : Int32)))) &&& (rD i)) &&& ((kw ||| ((ca &&& (kw ^^^ (-1 : Int32))) &&& (((rD i) ^^^ (-1 : Int32)) ||| oz))) ^^^ (-1 : Int32))) gN).2)) from rfl
  exact e_i (u := [(h0, .inr (12, vs)), (b6, .inl (g.2.1 1, 11, .inl rP)), (b7, .inl (g.2.1 1, 11, .inl rL)), (b8, .inl (g.2.1 1, 11, .inl rD)), (b12, .inl (g.2.1 1, 132, .inl rA)), (b13, .inl (g.2.1 1, 132, .inl rB)), (b14, .inl (g.2.1 1, 132, .inl rF)), (b15, .inl (g.2.1 1, 132, .inl rT)), (b16, .inl (g.2.1 1, 132, .inl rW)), (b17, .inl (g.2.1 3, 132, .inl rO)), (b34, .inl (g.2.1 0, 425984, .inl ((ND (kw ||| ((ca &&& (kw ^^^ (-1 : Int32))) &&& (((rD i) ^^^ (-1 : Int32)) ||| oz))) (((oz ||| (ca &&& (kw ^^^ (-1 : Int32)))) &&& (rD i)) &&& ((kw ||| ((ca &&& (kw ^^^ (-1 : Int32))) &&& (((rD i) ^^^ (-1 : Int32)) ||| oz))) ^^^ (-1 : Int32))) gN).2)))]) X hQ hr (hW) [0, 1, 2, 3, 4, 5, 6, 7, 8, 9, 10] rfl rfl (⟨(congrArg Prod.fst hF).symm, by rw [hF]⟩) ⟨Nat.le_of_ble_eq_true rfl, Nat.le_of_ble_eq_true rfl⟩ dX12_tryRow_72

def F_X12_needed25 (am : Int32) (gN : Nat → Int32) (kw : Int32) : Int32 × (Nat → Int32) := if am &&& (kw ^^^ (-1 : Int32)) = 0 then (((0 : Int32), gN)) else (((99 : Int32), gN))
set_option maxHeartbeats 4000000 in
set_option maxRecDepth 100000 in
theorem K_X12_needed25 (l : Launch) (g : GG) (h0 : Nat) (vs : List Value) (am : Int32) (an : Int32) (b6 : Nat) (rP : Nat → Int32) (b7 : Nat) (rL : Nat → Int32) (b8 : Nat) (rD : Nat → Int32) (b12 : Nat) (rA : Nat → Int32) (b13 : Nat) (rB : Nat → Int32) (b14 : Nat) (rF : Nat → Int32) (b15 : Nat) (rT : Nat → Int32) (b16 : Nat) (rW : Nat → Int32) (b17 : Nat) (rO : Nat → Int32) (b34 : Nat) (gN : Nat → Int32) (i : Nat) (mA : Int32) (mB : Int32) (kw : Int32) (oz : Int32) (hlen : vs.length = 64) (h38_ : vs[38]? = some (.int am)) (h39_ : vs[39]? = some (.int an)) (h6_ : vs[6]? = some (.ref b6)) (h7_ : vs[7]? = some (.ref b7)) (h8_ : vs[8]? = some (.ref b8)) (h12_ : vs[12]? = some (.ref b12)) (h13_ : vs[13]? = some (.ref b13)) (h14_ : vs[14]? = some (.ref b14)) (h15_ : vs[15]? = some (.ref b15)) (h16_ : vs[16]? = some (.ref b16)) (h17_ : vs[17]? = some (.ref b17)) (h34_ : vs[34]? = some (.ref b34)) (h37_ : vs[37]? = some (.int (nI i))) (h19_ : vs[19]? = some (.int mA)) (h20_ : vs[20]? = some (.int mB)) : MetI l g yX12_needed cX12_needed 7 (some .int) 0 0 0 [.ref h0, .int 25, .int kw, .int oz] [(h0, .inr (12, vs)), (b6, .inl (g.2.1 1, 11, .inl rP)), (b7, .inl (g.2.1 1, 11, .inl rL)), (b8, .inl (g.2.1 1, 11, .inl rD)), (b12, .inl (g.2.1 1, 132, .inl rA)), (b13, .inl (g.2.1 1, 132, .inl rB)), (b14, .inl (g.2.1 1, 132, .inl rF)), (b15, .inl (g.2.1 1, 132, .inl rT)), (b16, .inl (g.2.1 1, 132, .inl rW)), (b17, .inl (g.2.1 3, 132, .inl rO)), (b34, .inl (g.2.1 0, 425984, .inl gN))] (fun r u => r = (F_X12_needed25 am gN kw).1 ∧ u = [(h0, .inr (12, vs)), (b6, .inl (g.2.1 1, 11, .inl rP)), (b7, .inl (g.2.1 1, 11, .inl rL)), (b8, .inl (g.2.1 1, 11, .inl rD)), (b12, .inl (g.2.1 1, 132, .inl rA)), (b13, .inl (g.2.1 1, 132, .inl rB)), (b14, .inl (g.2.1 1, 132, .inl rF)), (b15, .inl (g.2.1 1, 132, .inl rT)), (b16, .inl (g.2.1 1, 132, .inl rW)), (b17, .inl (g.2.1 3, 132, .inl rO)), (b34, .inl (g.2.1 0, 425984, .inl ((F_X12_needed25 am gN kw).2)))]) := by
  refine MetI.of (own := RX12) rfl (by decide) (Nat.le_of_ble_eq_true rfl) ?_
  intro p e s m below meth c A ls args Q hQ X hr hin hW hl
  have hx := X.1
  have hb := X.2.1
  have hl : lv_has ls 7 [(0, .ref h0), (1, .int 25), (2, .int kw), (3, .int oz)] := hl
  refine lv_aload_n (pc := 0) hx hb dX12_needed_0 rfl (lv_at hl 0 rfl) ?_
  refine r_get X hW 0 ciX12 38 rfl (by decide) m_1269 rfl h38_ dX12_needed_1 ?_
  refine lv_iload_n (pc := 4) hx hb dX12_needed_4 rfl (lv_at hl 2 rfl) ?_
  refine lv_iconst (v := (-1)) (pc := 5) hx hb dX12_needed_5 (by decide) ?_
  refine lv_ixor (pc := 6) hx hb dX12_needed_6 ?_
  refine lv_iand (pc := 7) hx hb dX12_needed_7 ?_
  refine lv_if_ne (tgt := 13) (pc := 8) hx hb dX12_needed_8 rfl (fun c1 => ?_) (fun c1 => ?_)
  · refine lv_iload_n (pc := 13) hx hb dX12_needed_13 rfl (lv_at hl 1 rfl) ?_
    refine lv_bipush (v := 24) (pc := 14) hx hb dX12_needed_14 (by decide) ?_
    refine lv_icmp_le (tgt := 22) (pc := 16) hx hb dX12_needed_16 rfl (fun c3 => absurd c3 (by decide)) (fun c3 => ?_)
    refine lv_bipush (v := 99) (pc := 19) hx hb dX12_needed_19 (by decide) ?_
    have hF : F_X12_needed25 am gN kw = ((99 : Int32), gN) := show F_X12_needed25 am gN kw = ((99 : Int32), gN) from by rw [F_X12_needed25, if_neg c1]
    exact e_i (u := [(h0, .inr (12, vs)), (b6, .inl (g.2.1 1, 11, .inl rP)), (b7, .inl (g.2.1 1, 11, .inl rL)), (b8, .inl (g.2.1 1, 11, .inl rD)), (b12, .inl (g.2.1 1, 132, .inl rA)), (b13, .inl (g.2.1 1, 132, .inl rB)), (b14, .inl (g.2.1 1, 132, .inl rF)), (b15, .inl (g.2.1 1, 132, .inl rT)), (b16, .inl (g.2.1 1, 132, .inl rW)), (b17, .inl (g.2.1 3, 132, .inl rO)), (b34, .inl (g.2.1 0, 425984, .inl gN))]) X hQ hr (hW) [0, 1, 2, 3, 4, 5, 6, 7, 8, 9, 10] rfl rfl (⟨(congrArg Prod.fst hF).symm, by rw [hF]⟩) ⟨Nat.le_of_ble_eq_true rfl, Nat.le_of_ble_eq_true rfl⟩ dX12_needed_21
  · refine lv_iconst (v := 0) (pc := 11) hx hb dX12_needed_11 (by decide) ?_
    have hF : F_X12_needed25 am gN kw = ((0 : Int32), gN) := show F_X12_needed25 am gN kw = ((0 : Int32), gN) from by rw [F_X12_needed25, if_pos c1]
    exact e_i (u := [(h0, .inr (12, vs)), (b6, .inl (g.2.1 1, 11, .inl rP)), (b7, .inl (g.2.1 1, 11, .inl rL)), (b8, .inl (g.2.1 1, 11, .inl rD)), (b12, .inl (g.2.1 1, 132, .inl rA)), (b13, .inl (g.2.1 1, 132, .inl rB)), (b14, .inl (g.2.1 1, 132, .inl rF)), (b15, .inl (g.2.1 1, 132, .inl rT)), (b16, .inl (g.2.1 1, 132, .inl rW)), (b17, .inl (g.2.1 3, 132, .inl rO)), (b34, .inl (g.2.1 0, 425984, .inl gN))]) X hQ hr (hW) [0, 1, 2, 3, 4, 5, 6, 7, 8, 9, 10] rfl rfl (⟨(congrArg Prod.fst hF).symm, by rw [hF]⟩) ⟨Nat.le_of_ble_eq_true rfl, Nat.le_of_ble_eq_true rfl⟩ dX12_needed_12

def F_X12_rowsLeast (gN : Nat → Int32) (RL : (Nat → Int32) → Int32 × (Nat → Int32)) : Int32 × (Nat → Int32) := ((RL gN).1, ((RL gN).2))
set_option maxHeartbeats 4000000 in
set_option maxRecDepth 100000 in
theorem K_X12_rowsLeast (l : Launch) (g : GG) (h0 : Nat) (vs : List Value) (am : Int32) (an : Int32) (b6 : Nat) (rP : Nat → Int32) (b7 : Nat) (rL : Nat → Int32) (b8 : Nat) (rD : Nat → Int32) (b12 : Nat) (rA : Nat → Int32) (b13 : Nat) (rB : Nat → Int32) (b14 : Nat) (rF : Nat → Int32) (b15 : Nat) (rT : Nat → Int32) (b16 : Nat) (rW : Nat → Int32) (b17 : Nat) (rO : Nat → Int32) (b34 : Nat) (gN : Nat → Int32) (i : Nat) (mA : Int32) (mB : Int32) (h : Nat) (kw : Int32) (oz : Int32) (RL : (Nat → Int32) → Int32 × (Nat → Int32)) (dd : Nat) (hdd : 1 ≤ dd) (hlen : vs.length = 64) (h38_ : vs[38]? = some (.int am)) (h39_ : vs[39]? = some (.int an)) (h6_ : vs[6]? = some (.ref b6)) (h7_ : vs[7]? = some (.ref b7)) (h8_ : vs[8]? = some (.ref b8)) (h12_ : vs[12]? = some (.ref b12)) (h13_ : vs[13]? = some (.ref b13)) (h14_ : vs[14]? = some (.ref b14)) (h15_ : vs[15]? = some (.ref b15)) (h16_ : vs[16]? = some (.ref b16)) (h17_ : vs[17]? = some (.ref b17)) (h34_ : vs[34]? = some (.ref b34)) (h37_ : vs[37]? = some (.int (nI i))) (h19_ : vs[19]? = some (.int mA)) (h20_ : vs[20]? = some (.int mB)) (ht0 : ∀ N : Nat → Int32, MetI l g yX12_tryRow cX12_tryRow 10 (some .int) dd 0 0 [.ref h0, .int (nI h), .int kw, .int oz, .int (nI 0), .int 0, .int 0] [(h0, .inr (12, vs)), (b6, .inl (g.2.1 1, 11, .inl rP)), (b7, .inl (g.2.1 1, 11, .inl rL)), (b8, .inl (g.2.1 1, 11, .inl rD)), (b12, .inl (g.2.1 1, 132, .inl rA)), (b13, .inl (g.2.1 1, 132, .inl rB)), (b14, .inl (g.2.1 1, 132, .inl rF)), (b15, .inl (g.2.1 1, 132, .inl rT)), (b16, .inl (g.2.1 1, 132, .inl rW)), (b17, .inl (g.2.1 3, 132, .inl rO)), (b34, .inl (g.2.1 0, 425984, .inl N))] (fun r u => r = (RL N).1 ∧ u = [(h0, .inr (12, vs)), (b6, .inl (g.2.1 1, 11, .inl rP)), (b7, .inl (g.2.1 1, 11, .inl rL)), (b8, .inl (g.2.1 1, 11, .inl rD)), (b12, .inl (g.2.1 1, 132, .inl rA)), (b13, .inl (g.2.1 1, 132, .inl rB)), (b14, .inl (g.2.1 1, 132, .inl rF)), (b15, .inl (g.2.1 1, 132, .inl rT)), (b16, .inl (g.2.1 1, 132, .inl rW)), (b17, .inl (g.2.1 3, 132, .inl rO)), (b34, .inl (g.2.1 0, 425984, .inl ((RL N).2)))])) : MetI l g yX12_rowsLeast cX12_rowsLeast 4 (some .int) (dd + 1) 0 0 [.ref h0, .int (nI h), .int kw, .int oz] [(h0, .inr (12, vs)), (b6, .inl (g.2.1 1, 11, .inl rP)), (b7, .inl (g.2.1 1, 11, .inl rL)), (b8, .inl (g.2.1 1, 11, .inl rD)), (b12, .inl (g.2.1 1, 132, .inl rA)), (b13, .inl (g.2.1 1, 132, .inl rB)), (b14, .inl (g.2.1 1, 132, .inl rF)), (b15, .inl (g.2.1 1, 132, .inl rT)), (b16, .inl (g.2.1 1, 132, .inl rW)), (b17, .inl (g.2.1 3, 132, .inl rO)), (b34, .inl (g.2.1 0, 425984, .inl gN))] (fun r u => r = (F_X12_rowsLeast gN RL).1 ∧ u = [(h0, .inr (12, vs)), (b6, .inl (g.2.1 1, 11, .inl rP)), (b7, .inl (g.2.1 1, 11, .inl rL)), (b8, .inl (g.2.1 1, 11, .inl rD)), (b12, .inl (g.2.1 1, 132, .inl rA)), (b13, .inl (g.2.1 1, 132, .inl rB)), (b14, .inl (g.2.1 1, 132, .inl rF)), (b15, .inl (g.2.1 1, 132, .inl rT)), (b16, .inl (g.2.1 1, 132, .inl rW)), (b17, .inl (g.2.1 3, 132, .inl rO)), (b34, .inl (g.2.1 0, 425984, .inl ((F_X12_rowsLeast gN RL).2)))]) := by
  refine MetI.of (own := RX12) rfl (by decide) (Nat.le_of_ble_eq_true rfl) ?_
  intro p e s m below meth c A ls args Q hQ X hr hin hW hl
  have hx := X.1
  have hb := X.2.1
  have hl : lv_has ls 4 [(0, .ref h0), (1, .int (nI h)), (2, .int kw), (3, .int oz)] := hl
  refine lv_aload_n (pc := 0) hx hb dX12_rowsLeast_0 rfl (lv_at hl 0 rfl) ?_
  refine lv_iload_n (pc := 1) hx hb dX12_rowsLeast_1 rfl (lv_at hl 1 rfl) ?_
  refine lv_iload_n (pc := 2) hx hb dX12_rowsLeast_2 rfl (lv_at hl 2 rfl) ?_
  refine lv_iload_n (pc := 3) hx hb dX12_rowsLeast_3 rfl (lv_at hl 3 rfl) ?_
  refine lv_iconst (v := 0) (pc := 4) hx hb dX12_rowsLeast_4 (by decide) ?_
  refine lv_iconst (v := 0) (pc := 5) hx hb dX12_rowsLeast_5 (by decide) ?_
  refine lv_iconst (v := 0) (pc := 6) hx hb dX12_rowsLeast_6 (by decide) ?_
  refine c_Vi (pc := 7) (As := [.int (nI h), .int kw, .int oz, .int 0, .int 0, .int 0]) (rest := []) (wr := []) X hW 0 ciX12 rfl (ht0 gN) vX12_301 [0, 1, 2, 3, 4, 5, 6, 7, 8, 9, 10] [] rfl rfl rfl rfl rfl rfl hl.1 rfl (Nat.le_of_ble_eq_true rfl) ⟨by show _ ≤ dd + 1; omega, by show _ ≤ 40 * (dd + 1); omega⟩ ⟨Nat.le_of_ble_eq_true rfl, Nat.le_of_ble_eq_true rfl⟩ dX12_rowsLeast_7 (fun r1 u9 H locs hq hW => ?_)
  obtain ⟨rfl, rfl⟩ := hq
  have hW : WD g A s _ _ [(h0, .inr (12, vs)), (b6, .inl (g.2.1 1, 11, .inl rP)), (b7, .inl (g.2.1 1, 11, .inl rL)), (b8, .inl (g.2.1 1, 11, .inl rD)), (b12, .inl (g.2.1 1, 132, .inl rA)), (b13, .inl (g.2.1 1, 132, .inl rB)), (b14, .inl (g.2.1 1, 132, .inl rF)), (b15, .inl (g.2.1 1, 132, .inl rT)), (b16, .inl (g.2.1 1, 132, .inl rW)), (b17, .inl (g.2.1 3, 132, .inl rO)), (b34, .inl (g.2.1 0, 425984, .inl ((RL gN).2)))] := hW
  have hF : F_X12_rowsLeast gN RL = ((RL gN).1, ((RL gN).2)) := show F_X12_rowsLeast gN RL = ((RL gN).1, ((RL gN).2)) from rfl
  exact e_i (u := [(h0, .inr (12, vs)), (b6, .inl (g.2.1 1, 11, .inl rP)), (b7, .inl (g.2.1 1, 11, .inl rL)), (b8, .inl (g.2.1 1, 11, .inl rD)), (b12, .inl (g.2.1 1, 132, .inl rA)), (b13, .inl (g.2.1 1, 132, .inl rB)), (b14, .inl (g.2.1 1, 132, .inl rF)), (b15, .inl (g.2.1 1, 132, .inl rT)), (b16, .inl (g.2.1 1, 132, .inl rW)), (b17, .inl (g.2.1 3, 132, .inl rO)), (b34, .inl (g.2.1 0, 425984, .inl ((RL gN).2)))]) X hQ hr (hW) [0, 1, 2, 3, 4, 5, 6, 7, 8, 9, 10] rfl rfl (⟨(congrArg Prod.fst hF).symm, by rw [hF]⟩) ⟨Nat.le_of_ble_eq_true rfl, Nat.le_of_ble_eq_true rfl⟩ dX12_rowsLeast_10

def F_X12_needed (am : Int32) (gN : Nat → Int32) (h : Nat) (kw : Int32) (oz : Int32) (RL : (Nat → Int32) → Int32 × (Nat → Int32)) : Int32 × (Nat → Int32) := if am &&& (kw ^^^ (-1 : Int32)) = 0 then (((0 : Int32), gN)) else (if nI h ≤ 24 then (if gN (16384 * h + 128 * (tN kw) + tN oz) = 0 then (if 99 ≤ (RL gN).1 then (((upd ((RL gN).2) (16384 * h + 128 * (tN kw) + tN oz) (vp_nar .byte ((mn2 (99 : Int32) (99 : Int32)).toInt8.toInt32))) (16384 * h + 128 * (tN kw) + tN oz), (upd ((RL gN).2) (16384 * h + 128 * (tN kw) + tN oz) (vp_nar .byte ((mn2 (99 : Int32) (99 : Int32)).toInt8.toInt32))))) else (((upd ((RL gN).2) (16384 * h + 128 * (tN kw) + tN oz) (vp_nar .byte ((mn2 (99 : Int32) (((RL gN).1) + (1 : Int32))).toInt8.toInt32))) (16384 * h + 128 * (tN kw) + tN oz), (upd ((RL gN).2) (16384 * h + 128 * (tN kw) + tN oz) (vp_nar .byte ((mn2 (99 : Int32) (((RL gN).1) + (1 : Int32))).toInt8.toInt32)))))) else ((gN (16384 * h + 128 * (tN kw) + tN oz), gN))) else (((99 : Int32), gN)))
set_option maxHeartbeats 4000000 in
set_option maxRecDepth 100000 in
theorem K_X12_needed (l : Launch) (g : GG) (h0 : Nat) (vs : List Value) (am : Int32) (an : Int32) (b6 : Nat) (rP : Nat → Int32) (b7 : Nat) (rL : Nat → Int32) (b8 : Nat) (rD : Nat → Int32) (b12 : Nat) (rA : Nat → Int32) (b13 : Nat) (rB : Nat → Int32) (b14 : Nat) (rF : Nat → Int32) (b15 : Nat) (rT : Nat → Int32) (b16 : Nat) (rW : Nat → Int32) (b17 : Nat) (rO : Nat → Int32) (b34 : Nat) (gN : Nat → Int32) (i : Nat) (mA : Int32) (mB : Int32) (h : Nat) (kw : Int32) (oz : Int32) (RL : (Nat → Int32) → Int32 × (Nat → Int32)) (dd : Nat) (hdd : 1 ≤ dd) (hlen : vs.length = 64) (h38_ : vs[38]? = some (.int am)) (h39_ : vs[39]? = some (.int an)) (h6_ : vs[6]? = some (.ref b6)) (h7_ : vs[7]? = some (.ref b7)) (h8_ : vs[8]? = some (.ref b8)) (h12_ : vs[12]? = some (.ref b12)) (h13_ : vs[13]? = some (.ref b13)) (h14_ : vs[14]? = some (.ref b14)) (h15_ : vs[15]? = some (.ref b15)) (h16_ : vs[16]? = some (.ref b16)) (h17_ : vs[17]? = some (.ref b17)) (h34_ : vs[34]? = some (.ref b34)) (h37_ : vs[37]? = some (.int (nI i))) (h19_ : vs[19]? = some (.int mA)) (h20_ : vs[20]? = some (.int mB)) (hh : h ≤ 25) (hkw : s7 kw) (hoz : s7 oz) (hrl : h ≤ 24 → ∀ N : Nat → Int32, MetI l g yX12_rowsLeast cX12_rowsLeast 4 (some .int) dd 0 0 [.ref h0, .int (nI h), .int kw, .int oz] [(h0, .inr (12, vs)), (b6, .inl (g.2.1 1, 11, .inl rP)), (b7, .inl (g.2.1 1, 11, .inl rL)), (b8, .inl (g.2.1 1, 11, .inl rD)), (b12, .inl (g.2.1 1, 132, .inl rA)), (b13, .inl (g.2.1 1, 132, .inl rB)), (b14, .inl (g.2.1 1, 132, .inl rF)), (b15, .inl (g.2.1 1, 132, .inl rT)), (b16, .inl (g.2.1 1, 132, .inl rW)), (b17, .inl (g.2.1 3, 132, .inl rO)), (b34, .inl (g.2.1 0, 425984, .inl N))] (fun r u => r = (RL N).1 ∧ u = [(h0, .inr (12, vs)), (b6, .inl (g.2.1 1, 11, .inl rP)), (b7, .inl (g.2.1 1, 11, .inl rL)), (b8, .inl (g.2.1 1, 11, .inl rD)), (b12, .inl (g.2.1 1, 132, .inl rA)), (b13, .inl (g.2.1 1, 132, .inl rB)), (b14, .inl (g.2.1 1, 132, .inl rF)), (b15, .inl (g.2.1 1, 132, .inl rT)), (b16, .inl (g.2.1 1, 132, .inl rW)), (b17, .inl (g.2.1 3, 132, .inl rO)), (b34, .inl (g.2.1 0, 425984, .inl ((RL N).2)))])) : MetI l g yX12_needed cX12_needed 7 (some .int) (dd + 1) 0 0 [.ref h0, .int (nI h), .int kw, .int oz] [(h0, .inr (12, vs)), (b6, .inl (g.2.1 1, 11, .inl rP)), (b7, .inl (g.2.1 1, 11, .inl rL)), (b8, .inl (g.2.1 1, 11, .inl rD)), (b12, .inl (g.2.1 1, 132, .inl rA)), (b13, .inl (g.2.1 1, 132, .inl rB)), (b14, .inl (g.2.1 1, 132, .inl rF)), (b15, .inl (g.2.1 1, 132, .inl rT)), (b16, .inl (g.2.1 1, 132, .inl rW)), (b17, .inl (g.2.1 3, 132, .inl rO)), (b34, .inl (g.2.1 0, 425984, .inl gN))] (fun r u => r = (F_X12_needed am gN h kw oz RL).1 ∧ u = [(h0, .inr (12, vs)), (b6, .inl (g.2.1 1, 11, .inl rP)), (b7, .inl (g.2.1 1, 11, .inl rL)), (b8, .inl (g.2.1 1, 11, .inl rD)), (b12, .inl (g.2.1 1, 132, .inl rA)), (b13, .inl (g.2.1 1, 132, .inl rB)), (b14, .inl (g.2.1 1, 132, .inl rF)), (b15, .inl (g.2.1 1, 132, .inl rT)), (b16, .inl (g.2.1 1, 132, .inl rW)), (b17, .inl (g.2.1 3, 132, .inl rO)), (b34, .inl (g.2.1 0, 425984, .inl ((F_X12_needed am gN h kw oz RL).2)))]) := by
  refine MetI.of (own := RX12) rfl (by decide) (Nat.le_of_ble_eq_true rfl) ?_
  intro p e s m below meth c A ls args Q hQ X hr hin hW hl
  have hx := X.1
  have hb := X.2.1
  have hl : lv_has ls 7 [(0, .ref h0), (1, .int (nI h)), (2, .int kw), (3, .int oz)] := hl
  have hk9 := (s7_num hkw).2
  have ho9 := (s7_num hoz).2
  refine lv_aload_n (pc := 0) hx hb dX12_needed_0 rfl (lv_at hl 0 rfl) ?_
  refine r_get X hW 0 ciX12 38 rfl (by decide) m_1269 rfl h38_ dX12_needed_1 ?_
  refine lv_iload_n (pc := 4) hx hb dX12_needed_4 rfl (lv_at hl 2 rfl) ?_
  refine lv_iconst (v := (-1)) (pc := 5) hx hb dX12_needed_5 (by decide) ?_
  refine lv_ixor (pc := 6) hx hb dX12_needed_6 ?_
  refine lv_iand (pc := 7) hx hb dX12_needed_7 ?_
  refine lv_if_ne (tgt := 13) (pc := 8) hx hb dX12_needed_8 rfl (fun c1 => ?_) (fun c1 => ?_)
  · refine lv_iload_n (pc := 13) hx hb dX12_needed_13 rfl (lv_at hl 1 rfl) ?_
    refine lv_bipush (v := 24) (pc := 14) hx hb dX12_needed_14 (by decide) ?_
    refine lv_icmp_le (tgt := 22) (pc := 16) hx hb dX12_needed_16 rfl (fun c3 => ?_) (fun c3 => ?_)
    · have h4 : h ≤ 24 := (nI_leI (a := h) (b := 24) (by omega) (by omega)).mp c3
      refine lv_sipush (v := 16384) (pc := 22) hx hb dX12_needed_22 (by decide) ?_
      refine lv_iload_n (pc := 25) hx hb dX12_needed_25 rfl (lv_at hl 1 rfl) ?_
      refine lv_imul (pc := 26) hx hb dX12_needed_26 ?_
      refine lv_topi (fun v5 ev5 => ?_)
      obtain rfl : v5 = nI (16384 * h) := ev5.trans (pk_mul 16384 h)
      refine lv_sipush (v := 128) (pc := 27) hx hb dX12_needed_27 (by decide) ?_
      refine lv_iload_n (pc := 30) hx hb dX12_needed_30 rfl (lv_at hl 2 rfl) ?_
      rw [(s7_num hkw).1]
      refine lv_imul (pc := 31) hx hb dX12_needed_31 ?_
      refine lv_topi (fun v6 ev6 => ?_)
      obtain rfl : v6 = nI (128 * (tN kw)) := ev6.trans (pk_mul 128 (tN kw))
      refine lv_iadd (pc := 32) hx hb dX12_needed_32 ?_
      refine lv_topi (fun v7 ev7 => ?_)
      obtain rfl : v7 = nI (16384 * h + 128 * (tN kw)) := ev7.trans (nI_add _ _)
      refine lv_iload_n (pc := 33) hx hb dX12_needed_33 rfl (lv_at hl 3 rfl) ?_
      rw [(s7_num hoz).1]
      refine lv_iadd (pc := 34) hx hb dX12_needed_34 ?_
      refine lv_topi (fun v8 ev8 => ?_)
      obtain rfl : v8 = nI (16384 * h + 128 * (tN kw) + tN oz) := ev8.trans (nI_add _ _)
      refine lv_istore (lv' := [(4, .int (nI (16384 * h + 128 * (tN kw) + tN oz))), (0, .ref h0), (1, .int (nI h)), (2, .int kw), (3, .int oz)]) (pc := 35) hx hb dX12_needed_35 hl (by decide) rfl (fun ls hl => ?_)
      refine lv_aload_n (pc := 37) hx hb dX12_needed_37 rfl (lv_at hl 1 rfl) ?_
      refine r_get X hW 0 ciX12 34 rfl (by decide) m_1265 rfl h34_ dX12_needed_38 ?_
      refine lv_iload (pc := 41) hx hb dX12_needed_41 (lv_at hl 0 rfl) ?_
      refine r_bald X hW 10 rfl (vp_in_nI (by omega) (by decide)) dX12_needed_43 ?_
      refine lv_topi (fun v9 ev9 => ?_)
      obtain rfl : v9 = gN (16384 * h + 128 * (tN kw) + tN oz) := ev9.trans (by rw [nI_clamp (by omega)])
      refine lv_if_eq (tgt := 55) (pc := 44) hx hb dX12_needed_44 rfl (fun c10 => ?_) (fun c10 => ?_)
      · refine lv_bipush (v := 99) (pc := 55) hx hb dX12_needed_55 (by decide) ?_
        refine lv_istore (lv' := [(5, .int 99), (4, .int (nI (16384 * h + 128 * (tN kw) + tN oz))), (0, .ref h0), (1, .int (nI h)), (2, .int kw), (3, .int oz)]) (pc := 57) hx hb dX12_needed_57 hl (by decide) rfl (fun ls hl => ?_)
        refine lv_aload_n (pc := 59) hx hb dX12_needed_59 rfl (lv_at hl 2 rfl) ?_
        refine lv_iload_n (pc := 60) hx hb dX12_needed_60 rfl (lv_at hl 3 rfl) ?_
        refine lv_iload_n (pc := 61) hx hb dX12_needed_61 rfl (lv_at hl 4 rfl) ?_
        refine lv_iload_n (pc := 62) hx hb dX12_needed_62 rfl (lv_at hl 5 rfl) ?_
        refine c_Vi (pc := 63) (As := [.int (nI h), .int kw, .int oz]) (rest := []) (wr := []) X hW 0 ciX12 rfl (hrl (by omega) gN) vX12_292 [0, 1, 2, 3, 4, 5, 6, 7, 8, 9, 10] [] rfl rfl rfl rfl rfl rfl hl.1 rfl (Nat.le_of_ble_eq_true rfl) ⟨by show _ ≤ dd + 1; omega, by show _ ≤ 40 * (dd + 1); omega⟩ ⟨Nat.le_of_ble_eq_true rfl, Nat.le_of_ble_eq_true rfl⟩ dX12_needed_63 (fun r12 u9 H locs hq hW => ?_)
        obtain ⟨rfl, rfl⟩ := hq
        have hW : WD g A s _ _ [(h0, .inr (12, vs)), (b6, .inl (g.2.1 1, 11, .inl rP)), (b7, .inl (g.2.1 1, 11, .inl rL)), (b8, .inl (g.2.1 1, 11, .inl rD)), (b12, .inl (g.2.1 1, 132, .inl rA)), (b13, .inl (g.2.1 1, 132, .inl rB)), (b14, .inl (g.2.1 1, 132, .inl rF)), (b15, .inl (g.2.1 1, 132, .inl rT)), (b16, .inl (g.2.1 1, 132, .inl rW)), (b17, .inl (g.2.1 3, 132, .inl rO)), (b34, .inl (g.2.1 0, 425984, .inl ((RL gN).2)))] := hW
        refine lv_istore (lv' := [(6, .int ((RL gN).1)), (5, .int 99), (4, .int (nI (16384 * h + 128 * (tN kw) + tN oz))), (0, .ref h0), (1, .int (nI h)), (2, .int kw), (3, .int oz)]) (pc := 66) hx hb dX12_needed_66 hl (by decide) rfl (fun ls hl => ?_)
        refine lv_iload (pc := 68) hx hb dX12_needed_68 (lv_at hl 0 rfl) ?_
        refine lv_bipush (v := 99) (pc := 70) hx hb dX12_needed_70 (by decide) ?_
        refine lv_icmp_ge (tgt := 81) (pc := 72) hx hb dX12_needed_72 rfl (fun c13 => ?_) (fun c13 => ?_)
        · refine lv_aload_n (pc := 81) hx hb dX12_needed_81 rfl (lv_at hl 3 rfl) ?_
          refine r_get X hW 0 ciX12 34 rfl (by decide) m_1265 rfl h34_ dX12_needed_82 ?_
          refine lv_iload (pc := 85) hx hb dX12_needed_85 (lv_at hl 2 rfl) ?_
          refine lv_bipush (v := 99) (pc := 87) hx hb dX12_needed_87 (by decide) ?_
          refine lv_iload (pc := 89) hx hb dX12_needed_89 (lv_at hl 1 rfl) ?_
          refine va_mmin (pc := 91) hx hb (X.2.2.1.trans hl.1.symm) X.2.2.2.1 (X.2.2.2.2.1 _ mm_X12_91) (X.2.2.2.2.1 _ mms_min) (X.2.2.2.2.1 _ m_19) (X.2.2.2.2.1 _ mmc_min) (by show _ ≤ dd + 1; omega) (Nat.le_trans (m := 40 * 2) (Nat.le_of_ble_eq_true rfl) (by show 40 * 2 ≤ 40 * (dd + 1); omega)) (Nat.le_of_ble_eq_true rfl) (Nat.le_of_ble_eq_true rfl) dX12_needed_91 ?_
          refine lv_topi (fun v15 ev15 => ?_)
          obtain rfl : v15 = mn2 (99 : Int32) (99 : Int32) := ev15.trans (rfl)
          refine lv_i2b (pc := 94) hx hb dX12_needed_94 rfl ?_
          refine r_bast (ws' := [(h0, .inr (12, vs)), (b6, .inl (g.2.1 1, 11, .inl rP)), (b7, .inl (g.2.1 1, 11, .inl rL)), (b8, .inl (g.2.1 1, 11, .inl rD)), (b12, .inl (g.2.1 1, 132, .inl rA)), (b13, .inl (g.2.1 1, 132, .inl rB)), (b14, .inl (g.2.1 1, 132, .inl rF)), (b15, .inl (g.2.1 1, 132, .inl rT)), (b16, .inl (g.2.1 1, 132, .inl rW)), (b17, .inl (g.2.1 3, 132, .inl rO)), (b34, .inl (g.2.1 0, 425984, .inl (upd ((RL gN).2) (16384 * h + 128 * (tN kw) + tN oz) (vp_nar .byte ((mn2 (99 : Int32) (99 : Int32)).toInt8.toInt32)))))]) X hW 10 rfl (vp_in_nI (by omega) (by decide)) (f' := (upd ((RL gN).2) (16384 * h + 128 * (tN kw) + tN oz) (vp_nar .byte ((mn2 (99 : Int32) (99 : Int32)).toInt8.toInt32)))) (by rw [nI_clamp (by omega)]) rfl dX12_needed_95 (fun H locs hW => ?_)
          refine lv_aload_n (pc := 96) hx hb dX12_needed_96 rfl (lv_at hl 3 rfl) ?_
          refine r_get X hW 0 ciX12 34 rfl (by decide) m_1265 rfl h34_ dX12_needed_97 ?_
          refine lv_iload (pc := 100) hx hb dX12_needed_100 (lv_at hl 2 rfl) ?_
          refine r_bald X hW 10 rfl (vp_in_nI (by omega) (by decide)) dX12_needed_102 ?_
          refine lv_topi (fun v16 ev16 => ?_)
          obtain rfl : v16 = (upd ((RL gN).2) (16384 * h + 128 * (tN kw) + tN oz) (vp_nar .byte ((mn2 (99 : Int32) (99 : Int32)).toInt8.toInt32))) (16384 * h + 128 * (tN kw) + tN oz) := ev16.trans (by rw [nI_clamp (by omega)])
          have hF : F_X12_needed am gN h kw oz RL = ((upd ((RL gN).2) (16384 * h + 128 * (tN kw) + tN oz) (vp_nar .byte ((mn2 (99 : Int32) (99 : Int32)).toInt8.toInt32))) (16384 * h + 128 * (tN kw) + tN oz), (upd ((RL gN).2) (16384 * h + 128 * (tN kw) + tN oz) (vp_nar .byte ((mn2 (99 : Int32) (99 : Int32)).toInt8.toInt32)))) := show F_X12_needed am gN h kw oz RL = ((upd ((RL gN).2) (16384 * h + 128 * (tN kw) + tN oz) (vp_nar .byte ((mn2 (99 : Int32) (99 : Int32)).toInt8.toInt32))) (16384 * h + 128 * (tN kw) + tN oz), (upd ((RL gN).2) (16384 * h + 128 * (tN kw) + tN oz) (vp_nar .byte ((mn2 (99 : Int32) (99 : Int32)).toInt8.toInt32)))) from by rw [F_X12_needed, if_neg c1, if_pos c3, if_pos c10, if_pos c13]
          exact e_i (u := [(h0, .inr (12, vs)), (b6, .inl (g.2.1 1, 11, .inl rP)), (b7, .inl (g.2.1 1, 11, .inl rL)), (b8, .inl (g.2.1 1, 11, .inl rD)), (b12, .inl (g.2.1 1, 132, .inl rA)), (b13, .inl (g.2.1 1, 132, .inl rB)), (b14, .inl (g.2.1 1, 132, .inl rF)), (b15, .inl (g.2.1 1, 132, .inl rT)), (b16, .inl (g.2.1 1, 132, .inl rW)), (b17, .inl (g.2.1 3, 132, .inl rO)), (b34, .inl (g.2.1 0, 425984, .inl (upd ((RL gN).2) (16384 * h + 128 * (tN kw) + tN oz) (vp_nar .byte ((mn2 (99 : Int32) (99 : Int32)).toInt8.toInt32)))))]) X hQ hr (hW) [0, 1, 2, 3, 4, 5, 6, 7, 8, 9, 10] rfl rfl (⟨(congrArg Prod.fst hF).symm, by rw [hF]⟩) ⟨Nat.le_of_ble_eq_true rfl, Nat.le_of_ble_eq_true rfl⟩ dX12_needed_103
        · refine lv_iload (pc := 75) hx hb dX12_needed_75 (lv_at hl 0 rfl) ?_
          refine lv_iconst (v := 1) (pc := 77) hx hb dX12_needed_77 (by decide) ?_
          refine lv_iadd (pc := 78) hx hb dX12_needed_78 ?_
          refine lv_istore (lv' := [(5, .int (((RL gN).1) + (1 : Int32))), (6, .int ((RL gN).1)), (4, .int (nI (16384 * h + 128 * (tN kw) + tN oz))), (0, .ref h0), (1, .int (nI h)), (2, .int kw), (3, .int oz)]) (pc := 79) hx hb dX12_needed_79 hl (by decide) rfl (fun ls hl => ?_)
          refine lv_aload_n (pc := 81) hx hb dX12_needed_81 rfl (lv_at hl 3 rfl) ?_
          refine r_get X hW 0 ciX12 34 rfl (by decide) m_1265 rfl h34_ dX12_needed_82 ?_
          refine lv_iload (pc := 85) hx hb dX12_needed_85 (lv_at hl 2 rfl) ?_
          refine lv_bipush (v := 99) (pc := 87) hx hb dX12_needed_87 (by decide) ?_
          refine lv_iload (pc := 89) hx hb dX12_needed_89 (lv_at hl 0 rfl) ?_
          refine va_mmin (pc := 91) hx hb (X.2.2.1.trans hl.1.symm) X.2.2.2.1 (X.2.2.2.2.1 _ mm_X12_91) (X.2.2.2.2.1 _ mms_min) (X.2.2.2.2.1 _ m_19) (X.2.2.2.2.1 _ mmc_min) (by show _ ≤ dd + 1; omega) (Nat.le_trans (m := 40 * 2) (Nat.le_of_ble_eq_true rfl) (by show 40 * 2 ≤ 40 * (dd + 1); omega)) (Nat.le_of_ble_eq_true rfl) (Nat.le_of_ble_eq_true rfl) dX12_needed_91 ?_
          refine lv_topi (fun v18 ev18 => ?_)
          obtain rfl : v18 = mn2 (99 : Int32) (((RL gN).1) + (1 : Int32)) := ev18.trans (rfl)
          refine lv_i2b (pc := 94) hx hb dX12_needed_94 rfl ?_
          refine r_bast (ws' := [(h0, .inr (12, vs)), (b6, .inl (g.2.1 1, 11, .inl rP)), (b7, .inl (g.2.1 1, 11, .inl rL)), (b8, .inl (g.2.1 1, 11, .inl rD)), (b12, .inl (g.2.1 1, 132, .inl rA)), (b13, .inl (g.2.1 1, 132, .inl rB)), (b14, .inl (g.2.1 1, 132, .inl rF)), (b15, .inl (g.2.1 1, 132, .inl rT)), (b16, .inl (g.2.1 1, 132, .inl rW)), (b17, .inl (g.2.1 3, 132, .inl rO)), (b34, .inl (g.2.1 0, 425984, .inl (upd ((RL gN).2) (16384 * h + 128 * (tN kw) + tN oz) (vp_nar .byte ((mn2 (99 : Int32) (((RL gN).1) + (1 : Int32))).toInt8.toInt32)))))]) X hW 10 rfl (vp_in_nI (by omega) (by decide)) (f' := (upd ((RL gN).2) (16384 * h + 128 * (tN kw) + tN oz) (vp_nar .byte ((mn2 (99 : Int32) (((RL gN).1) + (1 : Int32))).toInt8.toInt32)))) (by rw [nI_clamp (by omega)]) rfl dX12_needed_95 (fun H locs hW => ?_)
          refine lv_aload_n (pc := 96) hx hb dX12_needed_96 rfl (lv_at hl 3 rfl) ?_
          refine r_get X hW 0 ciX12 34 rfl (by decide) m_1265 rfl h34_ dX12_needed_97 ?_
          refine lv_iload (pc := 100) hx hb dX12_needed_100 (lv_at hl 2 rfl) ?_
          refine r_bald X hW 10 rfl (vp_in_nI (by omega) (by decide)) dX12_needed_102 ?_
          refine lv_topi (fun v19 ev19 => ?_)
          obtain rfl : v19 = (upd ((RL gN).2) (16384 * h + 128 * (tN kw) + tN oz) (vp_nar .byte ((mn2 (99 : Int32) (((RL gN).1) + (1 : Int32))).toInt8.toInt32))) (16384 * h + 128 * (tN kw) + tN oz) := ev19.trans (by rw [nI_clamp (by omega)])
          have hF : F_X12_needed am gN h kw oz RL = ((upd ((RL gN).2) (16384 * h + 128 * (tN kw) + tN oz) (vp_nar .byte ((mn2 (99 : Int32) (((RL gN).1) + (1 : Int32))).toInt8.toInt32))) (16384 * h + 128 * (tN kw) + tN oz), (upd ((RL gN).2) (16384 * h + 128 * (tN kw) + tN oz) (vp_nar .byte ((mn2 (99 : Int32) (((RL gN).1) + (1 : Int32))).toInt8.toInt32)))) := show F_X12_needed am gN h kw oz RL = ((upd ((RL gN).2) (16384 * h + 128 * (tN kw) + tN oz) (vp_nar .byte ((mn2 (99 : Int32) (((RL gN).1) + (1 : Int32))).toInt8.toInt32))) (16384 * h + 128 * (tN kw) + tN oz), (upd ((RL gN).2) (16384 * h + 128 * (tN kw) + tN oz) (vp_nar .byte ((mn2 (99 : Int32) (((RL gN).1) + (1 : Int32))).toInt8.toInt32)))) from by rw [F_X12_needed, if_neg c1, if_pos c3, if_pos c10, if_neg c13]
          exact e_i (u := [(h0, .inr (12, vs)), (b6, .inl (g.2.1 1, 11, .inl rP)), (b7, .inl (g.2.1 1, 11, .inl rL)), (b8, .inl (g.2.1 1, 11, .inl rD)), (b12, .inl (g.2.1 1, 132, .inl rA)), (b13, .inl (g.2.1 1, 132, .inl rB)), (b14, .inl (g.2.1 1, 132, .inl rF)), (b15, .inl (g.2.1 1, 132, .inl rT)), (b16, .inl (g.2.1 1, 132, .inl rW)), (b17, .inl (g.2.1 3, 132, .inl rO)), (b34, .inl (g.2.1 0, 425984, .inl (upd ((RL gN).2) (16384 * h + 128 * (tN kw) + tN oz) (vp_nar .byte ((mn2 (99 : Int32) (((RL gN).1) + (1 : Int32))).toInt8.toInt32)))))]) X hQ hr (hW) [0, 1, 2, 3, 4, 5, 6, 7, 8, 9, 10] rfl rfl (⟨(congrArg Prod.fst hF).symm, by rw [hF]⟩) ⟨Nat.le_of_ble_eq_true rfl, Nat.le_of_ble_eq_true rfl⟩ dX12_needed_103
      · refine lv_aload_n (pc := 47) hx hb dX12_needed_47 rfl (lv_at hl 1 rfl) ?_
        refine r_get X hW 0 ciX12 34 rfl (by decide) m_1265 rfl h34_ dX12_needed_48 ?_
        refine lv_iload (pc := 51) hx hb dX12_needed_51 (lv_at hl 0 rfl) ?_
        refine r_bald X hW 10 rfl (vp_in_nI (by omega) (by decide)) dX12_needed_53 ?_
        refine lv_topi (fun v21 ev21 => ?_)
        obtain rfl : v21 = gN (16384 * h + 128 * (tN kw) + tN oz) := ev21.trans (by rw [nI_clamp (by omega)])
        have hF : F_X12_needed am gN h kw oz RL = (gN (16384 * h + 128 * (tN kw) + tN oz), gN) := show F_X12_needed am gN h kw oz RL = (gN (16384 * h + 128 * (tN kw) + tN oz), gN) from by rw [F_X12_needed, if_neg c1, if_pos c3, if_neg c10]
        exact e_i (u := [(h0, .inr (12, vs)), (b6, .inl (g.2.1 1, 11, .inl rP)), (b7, .inl (g.2.1 1, 11, .inl rL)), (b8, .inl (g.2.1 1, 11, .inl rD)), (b12, .inl (g.2.1 1, 132, .inl rA)), (b13, .inl (g.2.1 1, 132, .inl rB)), (b14, .inl (g.2.1 1, 132, .inl rF)), (b15, .inl (g.2.1 1, 132, .inl rT)), (b16, .inl (g.2.1 1, 132, .inl rW)), (b17, .inl (g.2.1 3, 132, .inl rO)), (b34, .inl (g.2.1 0, 425984, .inl gN))]) X hQ hr (hW) [0, 1, 2, 3, 4, 5, 6, 7, 8, 9, 10] rfl rfl (⟨(congrArg Prod.fst hF).symm, by rw [hF]⟩) ⟨Nat.le_of_ble_eq_true rfl, Nat.le_of_ble_eq_true rfl⟩ dX12_needed_54
    · have h22 : ¬ (h ≤ 24) := fun q => c3 ((nI_leI (a := h) (b := 24) (by omega) (by omega)).mpr q)
      refine lv_bipush (v := 99) (pc := 19) hx hb dX12_needed_19 (by decide) ?_
      have hF : F_X12_needed am gN h kw oz RL = ((99 : Int32), gN) := show F_X12_needed am gN h kw oz RL = ((99 : Int32), gN) from by rw [F_X12_needed, if_neg c1, if_neg c3]
      exact e_i (u := [(h0, .inr (12, vs)), (b6, .inl (g.2.1 1, 11, .inl rP)), (b7, .inl (g.2.1 1, 11, .inl rL)), (b8, .inl (g.2.1 1, 11, .inl rD)), (b12, .inl (g.2.1 1, 132, .inl rA)), (b13, .inl (g.2.1 1, 132, .inl rB)), (b14, .inl (g.2.1 1, 132, .inl rF)), (b15, .inl (g.2.1 1, 132, .inl rT)), (b16, .inl (g.2.1 1, 132, .inl rW)), (b17, .inl (g.2.1 3, 132, .inl rO)), (b34, .inl (g.2.1 0, 425984, .inl gN))]) X hQ hr (hW) [0, 1, 2, 3, 4, 5, 6, 7, 8, 9, 10] rfl rfl (⟨(congrArg Prod.fst hF).symm, by rw [hF]⟩) ⟨Nat.le_of_ble_eq_true rfl, Nat.le_of_ble_eq_true rfl⟩ dX12_needed_21
  · refine lv_iconst (v := 0) (pc := 11) hx hb dX12_needed_11 (by decide) ?_
    have hF : F_X12_needed am gN h kw oz RL = ((0 : Int32), gN) := show F_X12_needed am gN h kw oz RL = ((0 : Int32), gN) from by rw [F_X12_needed, if_pos c1]
    exact e_i (u := [(h0, .inr (12, vs)), (b6, .inl (g.2.1 1, 11, .inl rP)), (b7, .inl (g.2.1 1, 11, .inl rL)), (b8, .inl (g.2.1 1, 11, .inl rD)), (b12, .inl (g.2.1 1, 132, .inl rA)), (b13, .inl (g.2.1 1, 132, .inl rB)), (b14, .inl (g.2.1 1, 132, .inl rF)), (b15, .inl (g.2.1 1, 132, .inl rT)), (b16, .inl (g.2.1 1, 132, .inl rW)), (b17, .inl (g.2.1 3, 132, .inl rO)), (b34, .inl (g.2.1 0, 425984, .inl gN))]) X hQ hr (hW) [0, 1, 2, 3, 4, 5, 6, 7, 8, 9, 10] rfl rfl (⟨(congrArg Prod.fst hF).symm, by rw [hF]⟩) ⟨Nat.le_of_ble_eq_true rfl, Nat.le_of_ble_eq_true rfl⟩ dX12_needed_12

def TR (an : Int32) (rD : Nat → Int32) (i pe : Nat) (kw oz : Int32) (MC : Nat → Nat → Int32) (ND : NDT) : Nat → RTT
  | 0 => fun _ _ ca gN => F_X12_tryRowL rD gN i kw oz ca ND
  | f + 1 => fun fj bu ca gN => F_X12_tryRow an rD gN i pe kw oz fj bu ca MC ND (TR an rD i pe kw oz MC ND f)
def NDf (am an : Int32) (rD : Nat → Int32) (i pe : Nat) (MCh : Nat → Nat → Nat → Int32) : Nat → NDT
  | 0 => fun kw oz gN => F_X12_needed25 am gN kw
  | f + 1 => fun kw oz gN => F_X12_needed am gN (24 - f) kw oz (fun N => TR an rD i pe kw oz (MCh (24 - f)) (NDf am an rD i pe MCh f) pe 0 0 0 N)
theorem K_tr (l : Launch) (g : GG) (h0 : Nat) (vs : List Value) (am : Int32) (an : Int32) (b6 : Nat) (rP : Nat → Int32) (b7 : Nat) (rL : Nat → Int32) (b8 : Nat) (rD : Nat → Int32) (b12 : Nat) (rA : Nat → Int32) (b13 : Nat) (rB : Nat → Int32) (b14 : Nat) (rF : Nat → Int32) (b15 : Nat) (rT : Nat → Int32) (b16 : Nat) (rW : Nat → Int32) (b17 : Nat) (rO : Nat → Int32) (b34 : Nat) (i lc pe : Nat) (mA mB : Int32) (h : Nat) (kw oz : Int32) (MC : Nat → Nat → Int32) (ND : NDT) (dN : Nat) (hlen : vs.length = 64) (h38_ : vs[38]? = some (.int am)) (h39_ : vs[39]? = some (.int an)) (h6_ : vs[6]? = some (.ref b6)) (h7_ : vs[7]? = some (.ref b7)) (h8_ : vs[8]? = some (.ref b8)) (h12_ : vs[12]? = some (.ref b12)) (h13_ : vs[13]? = some (.ref b13)) (h14_ : vs[14]? = some (.ref b14)) (h15_ : vs[15]? = some (.ref b15)) (h16_ : vs[16]? = some (.ref b16)) (h17_ : vs[17]? = some (.ref b17)) (h34_ : vs[34]? = some (.ref b34)) (h37_ : vs[37]? = some (.int (nI i))) (h19_ : vs[19]? = some (.int mA)) (h20_ : vs[20]? = some (.int mB)) (hi : i < 11) (hlc : lc ≤ 12) (hL : rL i = nI lc) (hpe : pe ≤ 7) (hP : rP i = nI pe) (hh : h ≤ 24) (hkw : s7 kw) (hoz : s7 oz) (hMC : ∀ a b : Nat, a < 7 → b < 7 → MetI l g yX12_mayCall cX12_mayCall 6 (some .boolean) 1 0 0 [.ref h0, .int (nI i), .int (nI a), .int (nI b), .int (nI h)] [(h0, .inr (12, vs)), (b7, .inl (g.2.1 1, 11, .inl rL)), (b12, .inl (g.2.1 1, 132, .inl rA)), (b13, .inl (g.2.1 1, 132, .inl rB)), (b14, .inl (g.2.1 1, 132, .inl rF)), (b15, .inl (g.2.1 1, 132, .inl rT)), (b16, .inl (g.2.1 1, 132, .inl rW)), (b17, .inl (g.2.1 3, 132, .inl rO))] (fun r u => r = MC a b ∧ u = [(h0, .inr (12, vs)), (b7, .inl (g.2.1 1, 11, .inl rL)), (b12, .inl (g.2.1 1, 132, .inl rA)), (b13, .inl (g.2.1 1, 132, .inl rB)), (b14, .inl (g.2.1 1, 132, .inl rF)), (b15, .inl (g.2.1 1, 132, .inl rT)), (b16, .inl (g.2.1 1, 132, .inl rW)), (b17, .inl (g.2.1 3, 132, .inl rO))])) (hnd : ∀ (N : Nat → Int32) (k o : Int32), s7 k → s7 o → MetI l g yX12_needed cX12_needed 7 (some .int) dN 0 0 [.ref h0, .int (nI (h + 1)), .int k, .int o] [(h0, .inr (12, vs)), (b6, .inl (g.2.1 1, 11, .inl rP)), (b7, .inl (g.2.1 1, 11, .inl rL)), (b8, .inl (g.2.1 1, 11, .inl rD)), (b12, .inl (g.2.1 1, 132, .inl rA)), (b13, .inl (g.2.1 1, 132, .inl rB)), (b14, .inl (g.2.1 1, 132, .inl rF)), (b15, .inl (g.2.1 1, 132, .inl rT)), (b16, .inl (g.2.1 1, 132, .inl rW)), (b17, .inl (g.2.1 3, 132, .inl rO)), (b34, .inl (g.2.1 0, 425984, .inl N))] (fun r u => r = (ND k o N).1 ∧ u = [(h0, .inr (12, vs)), (b6, .inl (g.2.1 1, 11, .inl rP)), (b7, .inl (g.2.1 1, 11, .inl rL)), (b8, .inl (g.2.1 1, 11, .inl rD)), (b12, .inl (g.2.1 1, 132, .inl rA)), (b13, .inl (g.2.1 1, 132, .inl rB)), (b14, .inl (g.2.1 1, 132, .inl rF)), (b15, .inl (g.2.1 1, 132, .inl rT)), (b16, .inl (g.2.1 1, 132, .inl rW)), (b17, .inl (g.2.1 3, 132, .inl rO)), (b34, .inl (g.2.1 0, 425984, .inl ((ND k o N).2)))])) : ∀ (f fj : Nat), fj + f = pe → ∀ (gN : Nat → Int32) (bu ca : Int32), s7 ca → MetI l g yX12_tryRow cX12_tryRow 10 (some .int) (dN + f + 1) 0 0 [.ref h0, .int (nI h), .int kw, .int oz, .int (nI fj), .int bu, .int ca] [(h0, .inr (12, vs)), (b6, .inl (g.2.1 1, 11, .inl rP)), (b7, .inl (g.2.1 1, 11, .inl rL)), (b8, .inl (g.2.1 1, 11, .inl rD)), (b12, .inl (g.2.1 1, 132, .inl rA)), (b13, .inl (g.2.1 1, 132, .inl rB)), (b14, .inl (g.2.1 1, 132, .inl rF)), (b15, .inl (g.2.1 1, 132, .inl rT)), (b16, .inl (g.2.1 1, 132, .inl rW)), (b17, .inl (g.2.1 3, 132, .inl rO)), (b34, .inl (g.2.1 0, 425984, .inl gN))] (fun r u => r = (TR an rD i pe kw oz MC ND f fj bu ca gN).1 ∧ u = [(h0, .inr (12, vs)), (b6, .inl (g.2.1 1, 11, .inl rP)), (b7, .inl (g.2.1 1, 11, .inl rL)), (b8, .inl (g.2.1 1, 11, .inl rD)), (b12, .inl (g.2.1 1, 132, .inl rA)), (b13, .inl (g.2.1 1, 132, .inl rB)), (b14, .inl (g.2.1 1, 132, .inl rF)), (b15, .inl (g.2.1 1, 132, .inl rT)), (b16, .inl (g.2.1 1, 132, .inl rW)), (b17, .inl (g.2.1 3, 132, .inl rO)), (b34, .inl (g.2.1 0, 425984, .inl ((TR an rD i pe kw oz MC ND f fj bu ca gN).2)))])
  | 0, fj, e => fun gN bu ca hca => by
    have e9 : fj = pe := by omega
    rw [e9]
    exact K_X12_tryRowL l g h0 vs am an b6 rP b7 rL b8 rD b12 rA b13 rB b14 rF b15 rT b16 rW b17 rO b34 gN i lc pe mA mB h kw oz bu ca ND dN (Nat.zero_le _) hlen h38_ h39_ h6_ h7_ h8_ h12_ h13_ h14_ h15_ h16_ h17_ h34_ hi hlc hL hpe hP h37_ h19_ h20_ hh hkw hoz hca hnd
  | f + 1, fj, e => fun gN bu ca hca => K_X12_tryRow l g h0 vs am an b6 rP b7 rL b8 rD b12 rA b13 rB b14 rF b15 rT b16 rW b17 rO b34 gN i lc pe mA mB h kw oz fj bu ca MC ND (TR an rD i pe kw oz MC ND f) (dN + f + 1) (by omega) hlen h38_ h39_ h6_ h7_ h8_ h12_ h13_ h14_ h15_ h16_ h17_ h34_ hi hlc hL hpe hP h37_ h19_ h20_ (by omega) hh hkw hoz hca hMC (fun N k o a b => (hnd N k o a b).up (by omega)) (fun q N bu ca hca => K_tr l g h0 vs am an b6 rP b7 rL b8 rD b12 rA b13 rB b14 rF b15 rT b16 rW b17 rO b34 i lc pe mA mB h kw oz MC ND dN hlen h38_ h39_ h6_ h7_ h8_ h12_ h13_ h14_ h15_ h16_ h17_ h34_ h37_ h19_ h20_ hi hlc hL hpe hP hh hkw hoz hMC hnd f (fj + 1) (by omega) N bu ca hca)
theorem K_nd (l : Launch) (g : GG) (h0 : Nat) (vs : List Value) (am : Int32) (an : Int32) (b6 : Nat) (rP : Nat → Int32) (b7 : Nat) (rL : Nat → Int32) (b8 : Nat) (rD : Nat → Int32) (b12 : Nat) (rA : Nat → Int32) (b13 : Nat) (rB : Nat → Int32) (b14 : Nat) (rF : Nat → Int32) (b15 : Nat) (rT : Nat → Int32) (b16 : Nat) (rW : Nat → Int32) (b17 : Nat) (rO : Nat → Int32) (b34 : Nat) (i lc pe : Nat) (mA mB : Int32) (MCh : Nat → Nat → Nat → Int32) (hlen : vs.length = 64) (h38_ : vs[38]? = some (.int am)) (h39_ : vs[39]? = some (.int an)) (h6_ : vs[6]? = some (.ref b6)) (h7_ : vs[7]? = some (.ref b7)) (h8_ : vs[8]? = some (.ref b8)) (h12_ : vs[12]? = some (.ref b12)) (h13_ : vs[13]? = some (.ref b13)) (h14_ : vs[14]? = some (.ref b14)) (h15_ : vs[15]? = some (.ref b15)) (h16_ : vs[16]? = some (.ref b16)) (h17_ : vs[17]? = some (.ref b17)) (h34_ : vs[34]? = some (.ref b34)) (h37_ : vs[37]? = some (.int (nI i))) (h19_ : vs[19]? = some (.int mA)) (h20_ : vs[20]? = some (.int mB)) (hi : i < 11) (hlc : lc ≤ 12) (hL : rL i = nI lc) (hpe : pe ≤ 7) (hP : rP i = nI pe) (hMCh : ∀ h : Nat, 1 ≤ h → h ≤ 24 → ∀ a b : Nat, a < 7 → b < 7 → MetI l g yX12_mayCall cX12_mayCall 6 (some .boolean) 1 0 0 [.ref h0, .int (nI i), .int (nI a), .int (nI b), .int (nI h)] [(h0, .inr (12, vs)), (b7, .inl (g.2.1 1, 11, .inl rL)), (b12, .inl (g.2.1 1, 132, .inl rA)), (b13, .inl (g.2.1 1, 132, .inl rB)), (b14, .inl (g.2.1 1, 132, .inl rF)), (b15, .inl (g.2.1 1, 132, .inl rT)), (b16, .inl (g.2.1 1, 132, .inl rW)), (b17, .inl (g.2.1 3, 132, .inl rO))] (fun r u => r = MCh h a b ∧ u = [(h0, .inr (12, vs)), (b7, .inl (g.2.1 1, 11, .inl rL)), (b12, .inl (g.2.1 1, 132, .inl rA)), (b13, .inl (g.2.1 1, 132, .inl rB)), (b14, .inl (g.2.1 1, 132, .inl rF)), (b15, .inl (g.2.1 1, 132, .inl rT)), (b16, .inl (g.2.1 1, 132, .inl rW)), (b17, .inl (g.2.1 3, 132, .inl rO))])) : ∀ f : Nat, f ≤ 24 → ∀ (gN : Nat → Int32) (kw oz : Int32), s7 kw → s7 oz → MetI l g yX12_needed cX12_needed 7 (some .int) (10 * f) 0 0 [.ref h0, .int (nI (25 - f)), .int kw, .int oz] [(h0, .inr (12, vs)), (b6, .inl (g.2.1 1, 11, .inl rP)), (b7, .inl (g.2.1 1, 11, .inl rL)), (b8, .inl (g.2.1 1, 11, .inl rD)), (b12, .inl (g.2.1 1, 132, .inl rA)), (b13, .inl (g.2.1 1, 132, .inl rB)), (b14, .inl (g.2.1 1, 132, .inl rF)), (b15, .inl (g.2.1 1, 132, .inl rT)), (b16, .inl (g.2.1 1, 132, .inl rW)), (b17, .inl (g.2.1 3, 132, .inl rO)), (b34, .inl (g.2.1 0, 425984, .inl gN))] (fun r u => r = (NDf am an rD i pe MCh f kw oz gN).1 ∧ u = [(h0, .inr (12, vs)), (b6, .inl (g.2.1 1, 11, .inl rP)), (b7, .inl (g.2.1 1, 11, .inl rL)), (b8, .inl (g.2.1 1, 11, .inl rD)), (b12, .inl (g.2.1 1, 132, .inl rA)), (b13, .inl (g.2.1 1, 132, .inl rB)), (b14, .inl (g.2.1 1, 132, .inl rF)), (b15, .inl (g.2.1 1, 132, .inl rT)), (b16, .inl (g.2.1 1, 132, .inl rW)), (b17, .inl (g.2.1 3, 132, .inl rO)), (b34, .inl (g.2.1 0, 425984, .inl ((NDf am an rD i pe MCh f kw oz gN).2)))])
  | 0, _ => fun gN kw oz hkw hoz => K_X12_needed25 l g h0 vs am an b6 rP b7 rL b8 rD b12 rA b13 rB b14 rF b15 rT b16 rW b17 rO b34 gN i mA mB kw oz  hlen h38_ h39_ h6_ h7_ h8_ h12_ h13_ h14_ h15_ h16_ h17_ h34_ h37_ h19_ h20_
  | f + 1, hf => fun gN kw oz hkw hoz => by
    have e : 24 - f + 1 = 25 - f := by omega
    have hnd : ∀ (N : Nat → Int32) (k o : Int32), s7 k → s7 o → MetI l g yX12_needed cX12_needed 7 (some .int) (10 * f) 0 0 [.ref h0, .int (nI (24 - f + 1)), .int k, .int o] [(h0, .inr (12, vs)), (b6, .inl (g.2.1 1, 11, .inl rP)), (b7, .inl (g.2.1 1, 11, .inl rL)), (b8, .inl (g.2.1 1, 11, .inl rD)), (b12, .inl (g.2.1 1, 132, .inl rA)), (b13, .inl (g.2.1 1, 132, .inl rB)), (b14, .inl (g.2.1 1, 132, .inl rF)), (b15, .inl (g.2.1 1, 132, .inl rT)), (b16, .inl (g.2.1 1, 132, .inl rW)), (b17, .inl (g.2.1 3, 132, .inl rO)), (b34, .inl (g.2.1 0, 425984, .inl N))] (fun r u => r = (NDf am an rD i pe MCh f k o N).1 ∧ u = [(h0, .inr (12, vs)), (b6, .inl (g.2.1 1, 11, .inl rP)), (b7, .inl (g.2.1 1, 11, .inl rL)), (b8, .inl (g.2.1 1, 11, .inl rD)), (b12, .inl (g.2.1 1, 132, .inl rA)), (b13, .inl (g.2.1 1, 132, .inl rB)), (b14, .inl (g.2.1 1, 132, .inl rF)), (b15, .inl (g.2.1 1, 132, .inl rT)), (b16, .inl (g.2.1 1, 132, .inl rW)), (b17, .inl (g.2.1 3, 132, .inl rO)), (b34, .inl (g.2.1 0, 425984, .inl ((NDf am an rD i pe MCh f k o N).2)))]) := by rw [e]; exact K_nd l g h0 vs am an b6 rP b7 rL b8 rD b12 rA b13 rB b14 rF b15 rT b16 rW b17 rO b34 i lc pe mA mB MCh hlen h38_ h39_ h6_ h7_ h8_ h12_ h13_ h14_ h15_ h16_ h17_ h34_ h37_ h19_ h20_ hi hlc hL hpe hP hMCh f (by omega)
    have e2 : 25 - (f + 1) = 24 - f := by omega
    rw [e2]
    exact (K_X12_needed l g h0 vs am an b6 rP b7 rL b8 rD b12 rA b13 rB b14 rF b15 rT b16 rW b17 rO b34 gN i mA mB (24 - f) kw oz (fun N => TR an rD i pe kw oz (MCh (24 - f)) (NDf am an rD i pe MCh f) pe 0 0 0 N) (10 * f + pe + 2) (by omega) hlen h38_ h39_ h6_ h7_ h8_ h12_ h13_ h14_ h15_ h16_ h17_ h34_ h37_ h19_ h20_ (by omega) hkw hoz (fun _ N => K_X12_rowsLeast l g h0 vs am an b6 rP b7 rL b8 rD b12 rA b13 rB b14 rF b15 rT b16 rW b17 rO b34 N i mA mB (24 - f) kw oz (fun N => TR an rD i pe kw oz (MCh (24 - f)) (NDf am an rD i pe MCh f) pe 0 0 0 N) (10 * f + pe + 1) (by omega) hlen h38_ h39_ h6_ h7_ h8_ h12_ h13_ h14_ h15_ h16_ h17_ h34_ h37_ h19_ h20_ (fun N => K_tr l g h0 vs am an b6 rP b7 rL b8 rD b12 rA b13 rB b14 rF b15 rT b16 rW b17 rO b34 i lc pe mA mB (24 - f) kw oz (MCh (24 - f)) (NDf am an rD i pe MCh f) (10 * f) hlen h38_ h39_ h6_ h7_ h8_ h12_ h13_ h14_ h15_ h16_ h17_ h34_ h37_ h19_ h20_ hi hlc hL hpe hP (by omega) hkw hoz (hMCh (24 - f) (by omega) (by omega)) hnd pe 0 (by omega) N 0 0 s7_0))).up (by omega)
theorem K_nh (l : Launch) (g : GG) (h0 : Nat) (vs : List Value) (am : Int32) (an : Int32) (b6 : Nat) (rP : Nat → Int32) (b7 : Nat) (rL : Nat → Int32) (b8 : Nat) (rD : Nat → Int32) (b12 : Nat) (rA : Nat → Int32) (b13 : Nat) (rB : Nat → Int32) (b14 : Nat) (rF : Nat → Int32) (b15 : Nat) (rT : Nat → Int32) (b16 : Nat) (rW : Nat → Int32) (b17 : Nat) (rO : Nat → Int32) (b34 : Nat) (i lc pe : Nat) (mA mB : Int32) (MCh : Nat → Nat → Nat → Int32) (hlen : vs.length = 64) (h38_ : vs[38]? = some (.int am)) (h39_ : vs[39]? = some (.int an)) (h6_ : vs[6]? = some (.ref b6)) (h7_ : vs[7]? = some (.ref b7)) (h8_ : vs[8]? = some (.ref b8)) (h12_ : vs[12]? = some (.ref b12)) (h13_ : vs[13]? = some (.ref b13)) (h14_ : vs[14]? = some (.ref b14)) (h15_ : vs[15]? = some (.ref b15)) (h16_ : vs[16]? = some (.ref b16)) (h17_ : vs[17]? = some (.ref b17)) (h34_ : vs[34]? = some (.ref b34)) (h37_ : vs[37]? = some (.int (nI i))) (h19_ : vs[19]? = some (.int mA)) (h20_ : vs[20]? = some (.int mB)) (hi : i < 11) (hlc : lc ≤ 12) (hL : rL i = nI lc) (hpe : pe ≤ 7) (hP : rP i = nI pe) (hMCh : ∀ h : Nat, 1 ≤ h → h ≤ 24 → ∀ a b : Nat, a < 7 → b < 7 → MetI l g yX12_mayCall cX12_mayCall 6 (some .boolean) 1 0 0 [.ref h0, .int (nI i), .int (nI a), .int (nI b), .int (nI h)] [(h0, .inr (12, vs)), (b7, .inl (g.2.1 1, 11, .inl rL)), (b12, .inl (g.2.1 1, 132, .inl rA)), (b13, .inl (g.2.1 1, 132, .inl rB)), (b14, .inl (g.2.1 1, 132, .inl rF)), (b15, .inl (g.2.1 1, 132, .inl rT)), (b16, .inl (g.2.1 1, 132, .inl rW)), (b17, .inl (g.2.1 3, 132, .inl rO))] (fun r u => r = MCh h a b ∧ u = [(h0, .inr (12, vs)), (b7, .inl (g.2.1 1, 11, .inl rL)), (b12, .inl (g.2.1 1, 132, .inl rA)), (b13, .inl (g.2.1 1, 132, .inl rB)), (b14, .inl (g.2.1 1, 132, .inl rF)), (b15, .inl (g.2.1 1, 132, .inl rT)), (b16, .inl (g.2.1 1, 132, .inl rW)), (b17, .inl (g.2.1 3, 132, .inl rO))])) (h : Nat) (h1 : 1 ≤ h) (h2 : h ≤ 25) (gN : Nat → Int32) (kw oz : Int32) (hkw : s7 kw) (hoz : s7 oz) : MetI l g yX12_needed cX12_needed 7 (some .int) 240 0 0 [.ref h0, .int (nI h), .int kw, .int oz] [(h0, .inr (12, vs)), (b6, .inl (g.2.1 1, 11, .inl rP)), (b7, .inl (g.2.1 1, 11, .inl rL)), (b8, .inl (g.2.1 1, 11, .inl rD)), (b12, .inl (g.2.1 1, 132, .inl rA)), (b13, .inl (g.2.1 1, 132, .inl rB)), (b14, .inl (g.2.1 1, 132, .inl rF)), (b15, .inl (g.2.1 1, 132, .inl rT)), (b16, .inl (g.2.1 1, 132, .inl rW)), (b17, .inl (g.2.1 3, 132, .inl rO)), (b34, .inl (g.2.1 0, 425984, .inl gN))] (fun r u => r = (NDf am an rD i pe MCh (25 - h) kw oz gN).1 ∧ u = [(h0, .inr (12, vs)), (b6, .inl (g.2.1 1, 11, .inl rP)), (b7, .inl (g.2.1 1, 11, .inl rL)), (b8, .inl (g.2.1 1, 11, .inl rD)), (b12, .inl (g.2.1 1, 132, .inl rA)), (b13, .inl (g.2.1 1, 132, .inl rB)), (b14, .inl (g.2.1 1, 132, .inl rF)), (b15, .inl (g.2.1 1, 132, .inl rT)), (b16, .inl (g.2.1 1, 132, .inl rW)), (b17, .inl (g.2.1 3, 132, .inl rO)), (b34, .inl (g.2.1 0, 425984, .inl ((NDf am an rD i pe MCh (25 - h) kw oz gN).2)))]) := by
  have e := K_nd l g h0 vs am an b6 rP b7 rL b8 rD b12 rA b13 rB b14 rF b15 rT b16 rW b17 rO b34 i lc pe mA mB MCh hlen h38_ h39_ h6_ h7_ h8_ h12_ h13_ h14_ h15_ h16_ h17_ h34_ h37_ h19_ h20_ hi hlc hL hpe hP hMCh (25 - h) (by omega) gN kw oz hkw hoz
  rw [show 25 - (25 - h) = h by omega] at e
  exact e.up (by omega)
def L1_X12_asks  (j1 : Nat) (fb34_1 : Nat → Int32) : (Nat → Int32) := (upd fb34_1 j1 (vp_nar .byte (0 : Int32)))
def L1_X12_ask  (i0_ : Nat → Int32) : Nat → (Nat → Int32)
  | 0 => (i0_)
  | k_ + 1 => L1_X12_asks  k_ (L1_X12_ask  i0_ k_)
def F_X12_ask (gN : Nat → Int32) : (Nat → Int32) := (L1_X12_ask gN 425984)
set_option maxHeartbeats 4000000 in
set_option maxRecDepth 100000 in
theorem K_X12_ask (l : Launch) (g : GG) (h0 : Nat) (vs : List Value) (b10 : Nat) (rM : Nat → Int32) (b11 : Nat) (rS : Nat → Int32) (b34 : Nat) (gN : Nat → Int32) (i : Nat) (ni : Nat) (hlen : vs.length = 64) (h10_ : vs[10]? = some (.ref b10)) (h11_ : vs[11]? = some (.ref b11)) (h34_ : vs[34]? = some (.ref b34)) (hi : i < 11) (hni : ni < 4) : MetV l g yX12_ask cX12_ask 4 none 0 0 0 [.ref h0, .int (nI i), .int (nI ni)] [(h0, .inr (12, vs)), (b10, .inl (g.2.1 1, 44, .inl rM)), (b11, .inl (g.2.1 1, 44, .inl rS)), (b34, .inl (g.2.1 0, 425984, .inl gN))] (fun u => u = [(h0, .inr (12, (((vs.set 37 (.int (nI i))).set 38 (.int (rM (4 * i + ni)))).set 39 (.int (rS (4 * i + ni)))))), (b10, .inl (g.2.1 1, 44, .inl rM)), (b11, .inl (g.2.1 1, 44, .inl rS)), (b34, .inl (g.2.1 0, 425984, .inl (F_X12_ask gN)))]) := by
  refine MetV.of (own := RX12) rfl (by decide) (Nat.le_of_ble_eq_true rfl) ?_
  intro p e s m below meth c A ls args Q hQ X hr hin hW hl
  have hx := X.1
  have hb := X.2.1
  have hl : lv_has ls 4 [(0, .ref h0), (1, .int (nI i)), (2, .int (nI ni))] := hl
  refine lv_aload_n (pc := 0) hx hb dX12_ask_0 rfl (lv_at hl 0 rfl) ?_
  refine lv_iload_n (pc := 1) hx hb dX12_ask_1 rfl (lv_at hl 1 rfl) ?_
  refine r_put (ws' := [(h0, .inr (12, (vs.set 37 (.int (nI i))))), (b10, .inl (g.2.1 1, 44, .inl rM)), (b11, .inl (g.2.1 1, 44, .inl rS)), (b34, .inl (g.2.1 0, 425984, .inl gN))]) X hW 0 ciX12 37 rfl (by decide) m_1268 rfl rfl rfl rfl (sv_lt (by decide) hlen) rfl dX12_ask_2 (fun H locs hW => ?_)
  refine lv_aload_n (pc := 5) hx hb dX12_ask_5 rfl (lv_at hl 0 rfl) ?_
  refine lv_aload_n (pc := 6) hx hb dX12_ask_6 rfl (lv_at hl 0 rfl) ?_
  refine r_get X hW 0 ciX12 10 rfl (by decide) m_1241 rfl (sv_ne (k := 37) (by decide) h10_) dX12_ask_7 ?_
  refine lv_iconst (v := 4) (pc := 10) hx hb dX12_ask_10 (by decide) ?_
  refine lv_iload_n (pc := 11) hx hb dX12_ask_11 rfl (lv_at hl 1 rfl) ?_
  refine lv_imul (pc := 12) hx hb dX12_ask_12 ?_
  refine lv_topi (fun v1 ev1 => ?_)
  obtain rfl : v1 = nI (4 * i) := ev1.trans (pk_mul 4 i)
  refine lv_iload_n (pc := 13) hx hb dX12_ask_13 rfl (lv_at hl 2 rfl) ?_
  refine lv_iadd (pc := 14) hx hb dX12_ask_14 ?_
  refine lv_topi (fun v2 ev2 => ?_)
  obtain rfl : v2 = nI (4 * i + ni) := ev2.trans (nI_add _ _)
  refine r_iald X hW 1 rfl (vp_in_nI (by omega) (by decide)) dX12_ask_15 ?_
  refine lv_topi (fun v3 ev3 => ?_)
  obtain rfl : v3 = rM (4 * i + ni) := ev3.trans (by rw [nI_clamp (by omega)])
  refine r_put (ws' := [(h0, .inr (12, ((vs.set 37 (.int (nI i))).set 38 (.int (rM (4 * i + ni)))))), (b10, .inl (g.2.1 1, 44, .inl rM)), (b11, .inl (g.2.1 1, 44, .inl rS)), (b34, .inl (g.2.1 0, 425984, .inl gN))]) X hW 0 ciX12 38 rfl (by decide) m_1269 rfl rfl rfl rfl (sv_lt (by decide) (sv_len hlen)) rfl dX12_ask_16 (fun H locs hW => ?_)
  refine lv_aload_n (pc := 19) hx hb dX12_ask_19 rfl (lv_at hl 0 rfl) ?_
  refine lv_aload_n (pc := 20) hx hb dX12_ask_20 rfl (lv_at hl 0 rfl) ?_
  refine r_get X hW 0 ciX12 11 rfl (by decide) m_1242 rfl (sv_ne (k := 38) (by decide) (sv_ne (k := 37) (by decide) h11_)) dX12_ask_21 ?_
  refine lv_iconst (v := 4) (pc := 24) hx hb dX12_ask_24 (by decide) ?_
  refine lv_iload_n (pc := 25) hx hb dX12_ask_25 rfl (lv_at hl 1 rfl) ?_
  refine lv_imul (pc := 26) hx hb dX12_ask_26 ?_
  refine lv_topi (fun v4 ev4 => ?_)
  obtain rfl : v4 = nI (4 * i) := ev4.trans (pk_mul 4 i)
  refine lv_iload_n (pc := 27) hx hb dX12_ask_27 rfl (lv_at hl 2 rfl) ?_
  refine lv_iadd (pc := 28) hx hb dX12_ask_28 ?_
  refine lv_topi (fun v5 ev5 => ?_)
  obtain rfl : v5 = nI (4 * i + ni) := ev5.trans (nI_add _ _)
  refine r_iald X hW 2 rfl (vp_in_nI (by omega) (by decide)) dX12_ask_29 ?_
  refine lv_topi (fun v6 ev6 => ?_)
  obtain rfl : v6 = rS (4 * i + ni) := ev6.trans (by rw [nI_clamp (by omega)])
  refine r_put (ws' := [(h0, .inr (12, (((vs.set 37 (.int (nI i))).set 38 (.int (rM (4 * i + ni)))).set 39 (.int (rS (4 * i + ni)))))), (b10, .inl (g.2.1 1, 44, .inl rM)), (b11, .inl (g.2.1 1, 44, .inl rS)), (b34, .inl (g.2.1 0, 425984, .inl gN))]) X hW 0 ciX12 39 rfl (by decide) m_1270 rfl rfl rfl rfl (sv_lt (by decide) (sv_len (sv_len hlen))) rfl dX12_ask_30 (fun H locs hW => ?_)
  refine lv_iconst (v := 0) (pc := 33) hx hb dX12_ask_33 (by decide) ?_
  refine lv_istore_n (lv' := [(3, .int 0), (0, .ref h0), (1, .int (nI i)), (2, .int (nI ni))]) (pc := 34) hx hb dX12_ask_34 rfl hl (by decide) rfl (fun ls hl => ?_)
  have loop1 : ∀ (fu1 : Nat) (j1 : Nat) (fb34_1 : Nat → Int32), (425984 < fu1 + j1) → (j1 ≤ 425984) → (fb34_1 = L1_X12_ask gN j1) → ∀ (H : Heap) (locs : List Loc) (ls : Array Slot), WD g A s H locs [(h0, .inr (12, (((vs.set 37 (.int (nI i))).set 38 (.int (rM (4 * i + ni)))).set 39 (.int (rS (4 * i + ni)))))), (b10, .inl (g.2.1 1, 44, .inl rM)), (b11, .inl (g.2.1 1, 44, .inl rS)), (b34, .inl (g.2.1 0, 425984, .inl fb34_1))] → lv_has ls 4 [(3, .int (nI j1)), (0, .ref h0), (1, .int (nI i)), (2, .int (nI ni))] → W p l e (RM 0 0 0) s m args below meth c H locs 0 0 Q (F0 m 35 ls []) := by
    intro fu1
    induction fu1 with
    | zero =>
      intro j1 fb34_1 hm1 hj1 hst1
      exact absurd hm1 (by omega)
    | succ fu1 ih1 =>
      intro j1 fb34_1 hm1 hj1 hst1 H locs ls hW hl
      refine lv_iload_n (pc := 35) hx hb dX12_ask_35 rfl (lv_at hl 0 rfl) ?_
      refine lv_aload_n (pc := 36) hx hb dX12_ask_36 rfl (lv_at hl 1 rfl) ?_
      refine r_get X hW 0 ciX12 34 rfl (by decide) m_1265 rfl (sv_ne (k := 39) (by decide) (sv_ne (k := 38) (by decide) (sv_ne (k := 37) (by decide) h34_))) dX12_ask_37 ?_
      refine r_alen (v := 425984) X hW 3 0 rfl rfl rfl dX12_ask_40 ?_
      refine lv_icmp_ge (tgt := 57) (pc := 41) hx hb dX12_ask_41 rfl (fun c7 => ?_) (fun c7 => ?_)
      · have h8 : 425984 ≤ j1 := (nI_leI (a := 425984) (b := j1) (by omega) (by omega)).mp c7
        have hN1 : j1 = 425984 := by omega
        rw [hN1] at hst1
        subst hst1
        have hW : WD g A s _ _ [(h0, .inr (12, (((vs.set 37 (.int (nI i))).set 38 (.int (rM (4 * i + ni)))).set 39 (.int (rS (4 * i + ni)))))), (b10, .inl (g.2.1 1, 44, .inl rM)), (b11, .inl (g.2.1 1, 44, .inl rS)), (b34, .inl (g.2.1 0, 425984, .inl (L1_X12_ask gN 425984)))] := hW
        have hF : F_X12_ask gN = (L1_X12_ask gN 425984) := show F_X12_ask gN = (L1_X12_ask gN 425984) from rfl
        exact e_v (u := [(h0, .inr (12, (((vs.set 37 (.int (nI i))).set 38 (.int (rM (4 * i + ni)))).set 39 (.int (rS (4 * i + ni)))))), (b10, .inl (g.2.1 1, 44, .inl rM)), (b11, .inl (g.2.1 1, 44, .inl rS)), (b34, .inl (g.2.1 0, 425984, .inl (L1_X12_ask gN 425984)))]) X hQ hr (hW) [0, 1, 2, 3] rfl rfl (by rw [hF]) ⟨Nat.le_of_ble_eq_true rfl, Nat.le_of_ble_eq_true rfl⟩ dX12_ask_57
      · have h9 : ¬ (425984 ≤ j1) := fun q => c7 ((nI_leI (a := 425984) (b := j1) (by omega) (by omega)).mpr q)
        refine lv_aload_n (pc := 44) hx hb dX12_ask_44 rfl (lv_at hl 1 rfl) ?_
        refine r_get X hW 0 ciX12 34 rfl (by decide) m_1265 rfl (sv_ne (k := 39) (by decide) (sv_ne (k := 38) (by decide) (sv_ne (k := 37) (by decide) h34_))) dX12_ask_45 ?_
        refine lv_iload_n (pc := 48) hx hb dX12_ask_48 rfl (lv_at hl 0 rfl) ?_
        refine lv_iconst (v := 0) (pc := 49) hx hb dX12_ask_49 (by decide) ?_
        refine r_bast (ws' := [(h0, .inr (12, (((vs.set 37 (.int (nI i))).set 38 (.int (rM (4 * i + ni)))).set 39 (.int (rS (4 * i + ni)))))), (b10, .inl (g.2.1 1, 44, .inl rM)), (b11, .inl (g.2.1 1, 44, .inl rS)), (b34, .inl (g.2.1 0, 425984, .inl (upd fb34_1 j1 (vp_nar .byte (0 : Int32)))))]) X hW 3 rfl (vp_in_nI (by omega) (by decide)) (f' := (upd fb34_1 j1 (vp_nar .byte (0 : Int32)))) (by rw [nI_clamp (by omega)]) rfl dX12_ask_50 (fun H locs hW => ?_)
        refine lv_iinc (v := nI (j1 + 1)) (lv' := [(3, .int (nI (j1 + 1))), (0, .ref h0), (1, .int (nI i)), (2, .int (nI ni))]) (pc := 51) hx hb dX12_ask_51 hl (k := 0) rfl (nI_add j1 1) (by decide) rfl (fun ls hl => ?_)
        refine lv_goto (tgt := 35) (pc := 54) hx hb dX12_ask_54 rfl ?_
        exact ih1 (j1 + 1) (upd fb34_1 j1 (vp_nar .byte (0 : Int32))) (by omega) (by omega) (by rw [L1_X12_ask, ← hst1]; exact (show L1_X12_asks  j1 fb34_1 = (upd fb34_1 j1 (vp_nar .byte (0 : Int32))) from rfl).symm) _ _ _ hW (lv_sub hl [0, 1, 2, 3] rfl)
  exact loop1 (425984 + 1) 0 gN (by omega) (by omega) rfl _ _ _ hW (lv_sub hl [0, 1, 2, 3] rfl)

theorem ask_0 {gN : Nat → Int32} : ∀ (k j : Nat), j < k → L1_X12_ask gN k j = 0
  | 0, j, h => absurd h (Nat.not_lt_zero _)
  | k + 1, j, h => by
    have e : L1_X12_ask gN (k + 1) = upd (L1_X12_ask gN k) k (vp_nar .byte (0 : Int32)) := rfl
    rw [e]
    by_cases q : j = k
    · rw [q, upd_eq]; decide
    · rw [upd_ne q]; exact ask_0 k j (by omega)
def F_X12_leastFrom (rD : Nat → Int32) (rK : Nat → Int32) (rM : Nat → Int32) (rS : Nat → Int32) (rA : Nat → Int32) (rB : Nat → Int32) (rF : Nat → Int32) (rT : Nat → Int32) (rW : Nat → Int32) (rO : Nat → Int32) (gN : Nat → Int32) (i : Nat) (lc : Nat) (pe : Nat) (ni : Nat) (h : Nat) : Int32 × (Nat → Int32) := ((NDf (rM (4 * i + ni)) (rS (4 * i + ni)) rD i pe (fun h a b => F_X12_mayCall rA rB rF rT rW rO lc i a b (nI h)) (25 - h) (rK (4 * i + ni)) (0 : Int32) (F_X12_ask gN)).1, ((NDf (rM (4 * i + ni)) (rS (4 * i + ni)) rD i pe (fun h a b => F_X12_mayCall rA rB rF rT rW rO lc i a b (nI h)) (25 - h) (rK (4 * i + ni)) (0 : Int32) (F_X12_ask gN)).2))
set_option maxHeartbeats 4000000 in
set_option maxRecDepth 100000 in
theorem K_X12_leastFrom (l : Launch) (g : GG) (h0 : Nat) (vs : List Value) (b6 : Nat) (rP : Nat → Int32) (b7 : Nat) (rL : Nat → Int32) (b8 : Nat) (rD : Nat → Int32) (b9 : Nat) (rK : Nat → Int32) (b10 : Nat) (rM : Nat → Int32) (b11 : Nat) (rS : Nat → Int32) (b12 : Nat) (rA : Nat → Int32) (b13 : Nat) (rB : Nat → Int32) (b14 : Nat) (rF : Nat → Int32) (b15 : Nat) (rT : Nat → Int32) (b16 : Nat) (rW : Nat → Int32) (b17 : Nat) (rO : Nat → Int32) (b34 : Nat) (gN : Nat → Int32) (i : Nat) (lc : Nat) (pe : Nat) (ni : Nat) (h : Nat) (hlen : vs.length = 64) (h6_ : vs[6]? = some (.ref b6)) (h7_ : vs[7]? = some (.ref b7)) (h8_ : vs[8]? = some (.ref b8)) (h9_ : vs[9]? = some (.ref b9)) (h10_ : vs[10]? = some (.ref b10)) (h11_ : vs[11]? = some (.ref b11)) (h12_ : vs[12]? = some (.ref b12)) (h13_ : vs[13]? = some (.ref b13)) (h14_ : vs[14]? = some (.ref b14)) (h15_ : vs[15]? = some (.ref b15)) (h16_ : vs[16]? = some (.ref b16)) (h17_ : vs[17]? = some (.ref b17)) (h34_ : vs[34]? = some (.ref b34)) (hi : i < 11) (hlc : lc ≤ 12) (hL : rL i = nI lc) (hpe : pe ≤ 7) (hP : rP i = nI pe) (h19_ : vs[19]? = some (.int (-1))) (h20_ : vs[20]? = some (.int (-1))) (hni : ni < 4) (hh1 : 1 ≤ h) (hh2 : h ≤ 24) (hkn : ∀ j : Nat, j < 44 → s7 (rK j)) : MetI l g yX12_leastFrom cX12_leastFrom 4 (some .int) 241 0 0 [.ref h0, .int (nI i), .int (nI ni), .int (nI h)] [(h0, .inr (12, vs)), (b6, .inl (g.2.1 1, 11, .inl rP)), (b7, .inl (g.2.1 1, 11, .inl rL)), (b8, .inl (g.2.1 1, 11, .inl rD)), (b9, .inl (g.2.1 1, 44, .inl rK)), (b10, .inl (g.2.1 1, 44, .inl rM)), (b11, .inl (g.2.1 1, 44, .inl rS)), (b12, .inl (g.2.1 1, 132, .inl rA)), (b13, .inl (g.2.1 1, 132, .inl rB)), (b14, .inl (g.2.1 1, 132, .inl rF)), (b15, .inl (g.2.1 1, 132, .inl rT)), (b16, .inl (g.2.1 1, 132, .inl rW)), (b17, .inl (g.2.1 3, 132, .inl rO)), (b34, .inl (g.2.1 0, 425984, .inl gN))] (fun r u => r = (F_X12_leastFrom rD rK rM rS rA rB rF rT rW rO gN i lc pe ni h).1 ∧ u = [(h0, .inr (12, (((vs.set 37 (.int (nI i))).set 38 (.int (rM (4 * i + ni)))).set 39 (.int (rS (4 * i + ni)))))), (b6, .inl (g.2.1 1, 11, .inl rP)), (b7, .inl (g.2.1 1, 11, .inl rL)), (b8, .inl (g.2.1 1, 11, .inl rD)), (b9, .inl (g.2.1 1, 44, .inl rK)), (b10, .inl (g.2.1 1, 44, .inl rM)), (b11, .inl (g.2.1 1, 44, .inl rS)), (b12, .inl (g.2.1 1, 132, .inl rA)), (b13, .inl (g.2.1 1, 132, .inl rB)), (b14, .inl (g.2.1 1, 132, .inl rF)), (b15, .inl (g.2.1 1, 132, .inl rT)), (b16, .inl (g.2.1 1, 132, .inl rW)), (b17, .inl (g.2.1 3, 132, .inl rO)), (b34, .inl (g.2.1 0, 425984, .inl ((F_X12_leastFrom rD rK rM rS rA rB rF rT rW rO gN i lc pe ni h).2)))]) := by
  refine MetI.of (own := RX12) rfl (by decide) (Nat.le_of_ble_eq_true rfl) ?_
  intro p e s m below meth c A ls args Q hQ X hr hin hW hl
  have hx := X.1
  have hb := X.2.1
  have hl : lv_has ls 4 [(0, .ref h0), (1, .int (nI i)), (2, .int (nI ni)), (3, .int (nI h))] := hl
  refine lv_aload_n (pc := 0) hx hb dX12_leastFrom_0 rfl (lv_at hl 0 rfl) ?_
  refine lv_iload_n (pc := 1) hx hb dX12_leastFrom_1 rfl (lv_at hl 1 rfl) ?_
  refine lv_iload_n (pc := 2) hx hb dX12_leastFrom_2 rfl (lv_at hl 2 rfl) ?_
  refine c_Vv (pc := 3) (As := [.int (nI i), .int (nI ni)]) (rest := []) (wr := [(b6, .inl (g.2.1 1, 11, .inl rP)), (b7, .inl (g.2.1 1, 11, .inl rL)), (b8, .inl (g.2.1 1, 11, .inl rD)), (b9, .inl (g.2.1 1, 44, .inl rK)), (b12, .inl (g.2.1 1, 132, .inl rA)), (b13, .inl (g.2.1 1, 132, .inl rB)), (b14, .inl (g.2.1 1, 132, .inl rF)), (b15, .inl (g.2.1 1, 132, .inl rT)), (b16, .inl (g.2.1 1, 132, .inl rW)), (b17, .inl (g.2.1 3, 132, .inl rO))]) X hW 0 ciX12 rfl (K_X12_ask l g h0 vs b10 rM b11 rS b34 gN i ni hlen h10_ h11_ h34_ hi hni) vX12_311 [0, 5, 6, 13] [1, 2, 3, 4, 7, 8, 9, 10, 11, 12] rfl rfl rfl rfl rfl rfl hl.1 rfl (Nat.le_of_ble_eq_true rfl) ⟨Nat.le_of_ble_eq_true rfl, Nat.le_of_ble_eq_true rfl⟩ ⟨Nat.le_of_ble_eq_true rfl, Nat.le_of_ble_eq_true rfl⟩ dX12_leastFrom_3 (fun u9 H locs hq hW => ?_)
  obtain rfl := hq
  have hW : WD g A s _ _ [(b6, .inl (g.2.1 1, 11, .inl rP)), (b7, .inl (g.2.1 1, 11, .inl rL)), (b8, .inl (g.2.1 1, 11, .inl rD)), (b9, .inl (g.2.1 1, 44, .inl rK)), (b12, .inl (g.2.1 1, 132, .inl rA)), (b13, .inl (g.2.1 1, 132, .inl rB)), (b14, .inl (g.2.1 1, 132, .inl rF)), (b15, .inl (g.2.1 1, 132, .inl rT)), (b16, .inl (g.2.1 1, 132, .inl rW)), (b17, .inl (g.2.1 3, 132, .inl rO)), (h0, .inr (12, (((vs.set 37 (.int (nI i))).set 38 (.int (rM (4 * i + ni)))).set 39 (.int (rS (4 * i + ni)))))), (b10, .inl (g.2.1 1, 44, .inl rM)), (b11, .inl (g.2.1 1, 44, .inl rS)), (b34, .inl (g.2.1 0, 425984, .inl (F_X12_ask gN)))] := hW
  refine lv_aload_n (pc := 6) hx hb dX12_leastFrom_6 rfl (lv_at hl 0 rfl) ?_
  refine lv_iload_n (pc := 7) hx hb dX12_leastFrom_7 rfl (lv_at hl 3 rfl) ?_
  refine lv_aload_n (pc := 8) hx hb dX12_leastFrom_8 rfl (lv_at hl 0 rfl) ?_
  refine r_get X hW 10 ciX12 9 rfl (by decide) m_1240 rfl (sv_ne (k := 39) (by decide) (sv_ne (k := 38) (by decide) (sv_ne (k := 37) (by decide) h9_))) dX12_leastFrom_9 ?_
  refine lv_iconst (v := 4) (pc := 12) hx hb dX12_leastFrom_12 (by decide) ?_
  refine lv_iload_n (pc := 13) hx hb dX12_leastFrom_13 rfl (lv_at hl 1 rfl) ?_
  refine lv_imul (pc := 14) hx hb dX12_leastFrom_14 ?_
  refine lv_topi (fun v1 ev1 => ?_)
  obtain rfl : v1 = nI (4 * i) := ev1.trans (pk_mul 4 i)
  refine lv_iload_n (pc := 15) hx hb dX12_leastFrom_15 rfl (lv_at hl 2 rfl) ?_
  refine lv_iadd (pc := 16) hx hb dX12_leastFrom_16 ?_
  refine lv_topi (fun v2 ev2 => ?_)
  obtain rfl : v2 = nI (4 * i + ni) := ev2.trans (nI_add _ _)
  refine r_iald X hW 3 rfl (vp_in_nI (by omega) (by decide)) dX12_leastFrom_17 ?_
  refine lv_topi (fun v3 ev3 => ?_)
  obtain rfl : v3 = rK (4 * i + ni) := ev3.trans (by rw [nI_clamp (by omega)])
  refine lv_iconst (v := 0) (pc := 18) hx hb dX12_leastFrom_18 (by decide) ?_
  refine c_Vi (pc := 19) (As := [.int (nI h), .int (rK (4 * i + ni)), .int 0]) (rest := []) (wr := [(b9, .inl (g.2.1 1, 44, .inl rK)), (b10, .inl (g.2.1 1, 44, .inl rM)), (b11, .inl (g.2.1 1, 44, .inl rS))]) X hW 10 ciX12 rfl (K_nh l g h0 (((vs.set 37 (.int (nI i))).set 38 (.int (rM (4 * i + ni)))).set 39 (.int (rS (4 * i + ni)))) (rM (4 * i + ni)) (rS (4 * i + ni)) b6 rP b7 rL b8 rD b12 rA b13 rB b14 rF b15 rT b16 rW b17 rO b34 i lc pe (-1) (-1) (fun h a b => F_X12_mayCall rA rB rF rT rW rO lc i a b (nI h)) (sv_len (sv_len (sv_len hlen))) (sv_ne (k := 39) (by decide) (sv_eq (k := 38) (n := 64) (by decide) (sv_len hlen))) (sv_eq (k := 39) (n := 64) (by decide) (sv_len (sv_len hlen))) (sv_ne (k := 39) (by decide) (sv_ne (k := 38) (by decide) (sv_ne (k := 37) (by decide) h6_))) (sv_ne (k := 39) (by decide) (sv_ne (k := 38) (by decide) (sv_ne (k := 37) (by decide) h7_))) (sv_ne (k := 39) (by decide) (sv_ne (k := 38) (by decide) (sv_ne (k := 37) (by decide) h8_))) (sv_ne (k := 39) (by decide) (sv_ne (k := 38) (by decide) (sv_ne (k := 37) (by decide) h12_))) (sv_ne (k := 39) (by decide) (sv_ne (k := 38) (by decide) (sv_ne (k := 37) (by decide) h13_))) (sv_ne (k := 39) (by decide) (sv_ne (k := 38) (by decide) (sv_ne (k := 37) (by decide) h14_))) (sv_ne (k := 39) (by decide) (sv_ne (k := 38) (by decide) (sv_ne (k := 37) (by decide) h15_))) (sv_ne (k := 39) (by decide) (sv_ne (k := 38) (by decide) (sv_ne (k := 37) (by decide) h16_))) (sv_ne (k := 39) (by decide) (sv_ne (k := 38) (by decide) (sv_ne (k := 37) (by decide) h17_))) (sv_ne (k := 39) (by decide) (sv_ne (k := 38) (by decide) (sv_ne (k := 37) (by decide) h34_))) (sv_ne (k := 39) (by decide) (sv_ne (k := 38) (by decide) (sv_eq (k := 37) (n := 64) (by decide) hlen))) (sv_ne (k := 39) (by decide) (sv_ne (k := 38) (by decide) (sv_ne (k := 37) (by decide) h19_))) (sv_ne (k := 39) (by decide) (sv_ne (k := 38) (by decide) (sv_ne (k := 37) (by decide) h20_))) hi hlc hL hpe hP (fun h _ _ a b p1 p2 => K_X12_mayCall l g h0 (((vs.set 37 (.int (nI i))).set 38 (.int (rM (4 * i + ni)))).set 39 (.int (rS (4 * i + ni)))) b7 rL b12 rA b13 rB b14 rF b15 rT b16 rW b17 rO lc i a b (nI h) (sv_len (sv_len (sv_len hlen))) (sv_ne (k := 39) (by decide) (sv_ne (k := 38) (by decide) (sv_ne (k := 37) (by decide) h7_))) (sv_ne (k := 39) (by decide) (sv_ne (k := 38) (by decide) (sv_ne (k := 37) (by decide) h12_))) (sv_ne (k := 39) (by decide) (sv_ne (k := 38) (by decide) (sv_ne (k := 37) (by decide) h13_))) (sv_ne (k := 39) (by decide) (sv_ne (k := 38) (by decide) (sv_ne (k := 37) (by decide) h14_))) (sv_ne (k := 39) (by decide) (sv_ne (k := 38) (by decide) (sv_ne (k := 37) (by decide) h15_))) (sv_ne (k := 39) (by decide) (sv_ne (k := 38) (by decide) (sv_ne (k := 37) (by decide) h16_))) (sv_ne (k := 39) (by decide) (sv_ne (k := 38) (by decide) (sv_ne (k := 37) (by decide) h17_))) (sv_ne (k := 39) (by decide) (sv_ne (k := 38) (by decide) (sv_ne (k := 37) (by decide) h19_))) (sv_ne (k := 39) (by decide) (sv_ne (k := 38) (by decide) (sv_ne (k := 37) (by decide) h20_))) hi p1 p2 hlc hL) h hh1 (by omega) (F_X12_ask gN) (rK (4 * i + ni)) (0 : Int32) (hkn (4 * i + ni) (by omega)) s7_0) vX12_305 [10, 0, 1, 2, 4, 5, 6, 7, 8, 9, 13] [3, 11, 12] rfl rfl rfl rfl rfl rfl hl.1 rfl (Nat.le_of_ble_eq_true rfl) ⟨Nat.le_of_ble_eq_true rfl, Nat.le_of_ble_eq_true rfl⟩ ⟨Nat.le_of_ble_eq_true rfl, Nat.le_of_ble_eq_true rfl⟩ dX12_leastFrom_19 (fun r4 u9 H locs hq hW => ?_)
  obtain ⟨rfl, rfl⟩ := hq
  have hW : WD g A s _ _ [(b9, .inl (g.2.1 1, 44, .inl rK)), (b10, .inl (g.2.1 1, 44, .inl rM)), (b11, .inl (g.2.1 1, 44, .inl rS)), (h0, .inr (12, (((vs.set 37 (.int (nI i))).set 38 (.int (rM (4 * i + ni)))).set 39 (.int (rS (4 * i + ni)))))), (b6, .inl (g.2.1 1, 11, .inl rP)), (b7, .inl (g.2.1 1, 11, .inl rL)), (b8, .inl (g.2.1 1, 11, .inl rD)), (b12, .inl (g.2.1 1, 132, .inl rA)), (b13, .inl (g.2.1 1, 132, .inl rB)), (b14, .inl (g.2.1 1, 132, .inl rF)), (b15, .inl (g.2.1 1, 132, .inl rT)), (b16, .inl (g.2.1 1, 132, .inl rW)), (b17, .inl (g.2.1 3, 132, .inl rO)), (b34, .inl (g.2.1 0, 425984, .inl ((NDf (rM (4 * i + ni)) (rS (4 * i + ni)) rD i pe (fun h a b => F_X12_mayCall rA rB rF rT rW rO lc i a b (nI h)) (25 - h) (rK (4 * i + ni)) (0 : Int32) (F_X12_ask gN)).2)))] := hW
  have hF : F_X12_leastFrom rD rK rM rS rA rB rF rT rW rO gN i lc pe ni h = ((NDf (rM (4 * i + ni)) (rS (4 * i + ni)) rD i pe (fun h a b => F_X12_mayCall rA rB rF rT rW rO lc i a b (nI h)) (25 - h) (rK (4 * i + ni)) (0 : Int32) (F_X12_ask gN)).1, ((NDf (rM (4 * i + ni)) (rS (4 * i + ni)) rD i pe (fun h a b => F_X12_mayCall rA rB rF rT rW rO lc i a b (nI h)) (25 - h) (rK (4 * i + ni)) (0 : Int32) (F_X12_ask gN)).2)) := show F_X12_leastFrom rD rK rM rS rA rB rF rT rW rO gN i lc pe ni h = ((NDf (rM (4 * i + ni)) (rS (4 * i + ni)) rD i pe (fun h a b => F_X12_mayCall rA rB rF rT rW rO lc i a b (nI h)) (25 - h) (rK (4 * i + ni)) (0 : Int32) (F_X12_ask gN)).1, ((NDf (rM (4 * i + ni)) (rS (4 * i + ni)) rD i pe (fun h a b => F_X12_mayCall rA rB rF rT rW rO lc i a b (nI h)) (25 - h) (rK (4 * i + ni)) (0 : Int32) (F_X12_ask gN)).2)) from rfl
  exact e_i (u := [(h0, .inr (12, (((vs.set 37 (.int (nI i))).set 38 (.int (rM (4 * i + ni)))).set 39 (.int (rS (4 * i + ni)))))), (b6, .inl (g.2.1 1, 11, .inl rP)), (b7, .inl (g.2.1 1, 11, .inl rL)), (b8, .inl (g.2.1 1, 11, .inl rD)), (b9, .inl (g.2.1 1, 44, .inl rK)), (b10, .inl (g.2.1 1, 44, .inl rM)), (b11, .inl (g.2.1 1, 44, .inl rS)), (b12, .inl (g.2.1 1, 132, .inl rA)), (b13, .inl (g.2.1 1, 132, .inl rB)), (b14, .inl (g.2.1 1, 132, .inl rF)), (b15, .inl (g.2.1 1, 132, .inl rT)), (b16, .inl (g.2.1 1, 132, .inl rW)), (b17, .inl (g.2.1 3, 132, .inl rO)), (b34, .inl (g.2.1 0, 425984, .inl ((NDf (rM (4 * i + ni)) (rS (4 * i + ni)) rD i pe (fun h a b => F_X12_mayCall rA rB rF rT rW rO lc i a b (nI h)) (25 - h) (rK (4 * i + ni)) (0 : Int32) (F_X12_ask gN)).2)))]) X hQ hr (hW) [3, 4, 5, 6, 0, 1, 2, 7, 8, 9, 10, 11, 12, 13] rfl rfl (⟨(congrArg Prod.fst hF).symm, by rw [hF]⟩) ⟨Nat.le_of_ble_eq_true rfl, Nat.le_of_ble_eq_true rfl⟩ dX12_leastFrom_22

theorem news_ok {ni : Nat} (h : ni < 4) : ¬ F_X12_isNews (nI ni) = 0 := (by decide +kernel : ∀ k : Nat, k < 4 → ¬ F_X12_isNews (nI k) = 0) ni h
theorem hour_ok {h : Nat} (h1 : 1 ≤ h) (h2 : h ≤ 24) : ¬ F_X12_isHour (nI h) = 0 := (by decide +kernel : ∀ k : Nat, k < 25 → 1 ≤ k → ¬ F_X12_isHour (nI k) = 0) h (by omega) h1
theorem ask_ok {nv i ni : Nat} (hn : nv ≤ 10) (hv : i < nv) (hni : ni < 4) : ¬ F_X12_isAsked nv (nI i) (nI ni) = 0 := by
  unfold F_X12_isAsked
  rw [if_neg (show ¬ F_X12_isValley nv (nI i) = 0 from by rw [rv_ok (by omega) hv]; decide), if_neg (news_ok hni)]
  decide

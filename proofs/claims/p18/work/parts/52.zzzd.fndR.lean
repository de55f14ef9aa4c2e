theorem dX12_lowest_0 : decode cX12_lowest 0 = .ok (.iload 4, 2) := DX12_lowest _ _ _ rfl
theorem dX12_lowest_2 : decode cX12_lowest 2 = .ok (.aload_n 0, 1) := DX12_lowest _ _ _ rfl
theorem dX12_lowest_3 : decode cX12_lowest 3 = .ok (.getfield 13, 3) := DX12_lowest _ _ _ rfl
theorem dX12_lowest_6 : decode cX12_lowest 6 = .ok (.aload_n 0, 1) := DX12_lowest _ _ _ rfl
theorem dX12_lowest_7 : decode cX12_lowest 7 = .ok (.getfield 283, 3) := DX12_lowest _ _ _ rfl
theorem dX12_lowest_10 : decode cX12_lowest 10 = .ok (.iaload, 1) := DX12_lowest _ _ _ rfl
theorem dX12_lowest_11 : decode cX12_lowest 11 = .ok (.if_icmp .ne 88, 3) := DX12_lowest _ _ _ rfl
theorem dX12_lowest_99 : decode cX12_lowest 99 = .ok (.iload_n 2, 1) := DX12_lowest _ _ _ rfl
theorem dX12_lowest_100 : decode cX12_lowest 100 = .ok (.iload 4, 2) := DX12_lowest _ _ _ rfl
theorem dX12_lowest_102 : decode cX12_lowest 102 = .ok (.ishr, 1) := DX12_lowest _ _ _ rfl
theorem dX12_lowest_103 : decode cX12_lowest 103 = .ok (.iconst 1, 1) := DX12_lowest _ _ _ rfl
theorem dX12_lowest_104 : decode cX12_lowest 104 = .ok (.iand, 1) := DX12_lowest _ _ _ rfl
theorem dX12_lowest_105 : decode cX12_lowest 105 = .ok (.iconst 1, 1) := DX12_lowest _ _ _ rfl
theorem dX12_lowest_106 : decode cX12_lowest 106 = .ok (.if_icmp .ne 29, 3) := DX12_lowest _ _ _ rfl
theorem dX12_lowest_135 : decode cX12_lowest 135 = .ok (.iconst 0, 1) := DX12_lowest _ _ _ rfl
theorem dX12_lowest_136 : decode cX12_lowest 136 = .ok (.istore 8, 2) := DX12_lowest _ _ _ rfl
theorem dX12_lowest_138 : decode cX12_lowest 138 = .ok (.iconst 0, 1) := DX12_lowest _ _ _ rfl
theorem dX12_lowest_139 : decode cX12_lowest 139 = .ok (.istore 9, 2) := DX12_lowest _ _ _ rfl
theorem dX12_lowest_141 : decode cX12_lowest 141 = .ok (.iload 9, 2) := DX12_lowest _ _ _ rfl
theorem dX12_lowest_143 : decode cX12_lowest 143 = .ok (.aload_n 0, 1) := DX12_lowest _ _ _ rfl
theorem dX12_lowest_144 : decode cX12_lowest 144 = .ok (.getfield 13, 3) := DX12_lowest _ _ _ rfl
theorem dX12_lowest_147 : decode cX12_lowest 147 = .ok (.aload_n 0, 1) := DX12_lowest _ _ _ rfl
theorem dX12_lowest_148 : decode cX12_lowest 148 = .ok (.getfield 283, 3) := DX12_lowest _ _ _ rfl
theorem dX12_lowest_151 : decode cX12_lowest 151 = .ok (.iaload, 1) := DX12_lowest _ _ _ rfl
theorem dX12_lowest_152 : decode cX12_lowest 152 = .ok (.if_icmp .ge 104, 3) := DX12_lowest _ _ _ rfl
theorem dX12_lowest_155 : decode cX12_lowest 155 = .ok (.iload 8, 2) := DX12_lowest _ _ _ rfl
theorem dX12_lowest_157 : decode cX12_lowest 157 = .ok (.ifCond .eq 99, 3) := DX12_lowest _ _ _ rfl
theorem dX12_lowest_256 : decode cX12_lowest 256 = .ok (.aload_n 0, 1) := DX12_lowest _ _ _ rfl
theorem dX12_lowest_257 : decode cX12_lowest 257 = .ok (.getfield 98, 3) := DX12_lowest _ _ _ rfl
theorem dX12_lowest_260 : decode cX12_lowest 260 = .ok (.iload 4, 2) := DX12_lowest _ _ _ rfl
theorem dX12_lowest_262 : decode cX12_lowest 262 = .ok (.bipush 7, 2) := DX12_lowest _ _ _ rfl
theorem dX12_lowest_264 : decode cX12_lowest 264 = .ok (.iastore, 1) := DX12_lowest _ _ _ rfl
theorem dX12_lowest_265 : decode cX12_lowest 265 = .ok (.aload_n 0, 1) := DX12_lowest _ _ _ rfl
theorem dX12_lowest_266 : decode cX12_lowest 266 = .ok (.iload_n 1, 1) := DX12_lowest _ _ _ rfl
theorem dX12_lowest_267 : decode cX12_lowest 267 = .ok (.iload_n 2, 1) := DX12_lowest _ _ _ rfl
theorem dX12_lowest_268 : decode cX12_lowest 268 = .ok (.iload_n 3, 1) := DX12_lowest _ _ _ rfl
theorem dX12_lowest_269 : decode cX12_lowest 269 = .ok (.iload 4, 2) := DX12_lowest _ _ _ rfl
theorem dX12_lowest_271 : decode cX12_lowest 271 = .ok (.iconst 1, 1) := DX12_lowest _ _ _ rfl
theorem dX12_lowest_272 : decode cX12_lowest 272 = .ok (.iadd, 1) := DX12_lowest _ _ _ rfl
theorem dX12_lowest_273 : decode cX12_lowest 273 = .ok (.iload 5, 2) := DX12_lowest _ _ _ rfl
theorem dX12_lowest_275 : decode cX12_lowest 275 = .ok (.iload 6, 2) := DX12_lowest _ _ _ rfl
theorem dX12_lowest_277 : decode cX12_lowest 277 = .ok (.iload 7, 2) := DX12_lowest _ _ _ rfl
theorem dX12_lowest_279 : decode cX12_lowest 279 = .ok (.invokevirtual 327, 3) := DX12_lowest _ _ _ rfl
theorem dX12_lowest_282 : decode cX12_lowest 282 = .ok (.ireturn, 1) := DX12_lowest _ _ _ rfl
theorem dX12_lowest_109 : decode cX12_lowest 109 = .ok (.aload_n 0, 1) := DX12_lowest _ _ _ rfl
theorem dX12_lowest_110 : decode cX12_lowest 110 = .ok (.getfield 289, 3) := DX12_lowest _ _ _ rfl
theorem dX12_lowest_113 : decode cX12_lowest 113 = .ok (.iload 4, 2) := DX12_lowest _ _ _ rfl
theorem dX12_lowest_115 : decode cX12_lowest 115 = .ok (.ishr, 1) := DX12_lowest _ _ _ rfl
theorem dX12_lowest_116 : decode cX12_lowest 116 = .ok (.iconst 1, 1) := DX12_lowest _ _ _ rfl
theorem dX12_lowest_117 : decode cX12_lowest 117 = .ok (.iand, 1) := DX12_lowest _ _ _ rfl
theorem dX12_lowest_118 : decode cX12_lowest 118 = .ok (.ifCond .ne 17, 3) := DX12_lowest _ _ _ rfl
theorem dX12_lowest_121 : decode cX12_lowest 121 = .ok (.iload 5, 2) := DX12_lowest _ _ _ rfl
theorem dX12_lowest_123 : decode cX12_lowest 123 = .ok (.iload 4, 2) := DX12_lowest _ _ _ rfl
theorem dX12_lowest_125 : decode cX12_lowest 125 = .ok (.ishr, 1) := DX12_lowest _ _ _ rfl
theorem dX12_lowest_126 : decode cX12_lowest 126 = .ok (.iconst 1, 1) := DX12_lowest _ _ _ rfl
theorem dX12_lowest_127 : decode cX12_lowest 127 = .ok (.iand, 1) := DX12_lowest _ _ _ rfl
theorem dX12_lowest_128 : decode cX12_lowest 128 = .ok (.ifCond .ne 7, 3) := DX12_lowest _ _ _ rfl
theorem dX12_lowest_131 : decode cX12_lowest 131 = .ok (.iconst 1, 1) := DX12_lowest _ _ _ rfl
theorem dX12_lowest_132 : decode cX12_lowest 132 = .ok (.goto 4, 3) := DX12_lowest _ _ _ rfl
theorem dX12_lowest_160 : decode cX12_lowest 160 = .ok (.iload 9, 2) := DX12_lowest _ _ _ rfl
theorem dX12_lowest_162 : decode cX12_lowest 162 = .ok (.iload 4, 2) := DX12_lowest _ _ _ rfl
theorem dX12_lowest_164 : decode cX12_lowest 164 = .ok (.if_icmp .eq 86, 3) := DX12_lowest _ _ _ rfl
theorem dX12_lowest_250 : decode cX12_lowest 250 = .ok (.iinc 9 1, 3) := DX12_lowest _ _ _ rfl
theorem dX12_lowest_253 : decode cX12_lowest 253 = .ok (.goto (-112), 3) := DX12_lowest _ _ _ rfl
theorem dX12_lowest_167 : decode cX12_lowest 167 = .ok (.iload 5, 2) := DX12_lowest _ _ _ rfl
theorem dX12_lowest_169 : decode cX12_lowest 169 = .ok (.aload_n 0, 1) := DX12_lowest _ _ _ rfl
theorem dX12_lowest_170 : decode cX12_lowest 170 = .ok (.getfield 289, 3) := DX12_lowest _ _ _ rfl
theorem dX12_lowest_173 : decode cX12_lowest 173 = .ok (.ior, 1) := DX12_lowest _ _ _ rfl
theorem dX12_lowest_174 : decode cX12_lowest 174 = .ok (.iload_n 2, 1) := DX12_lowest _ _ _ rfl
theorem dX12_lowest_175 : decode cX12_lowest 175 = .ok (.ior, 1) := DX12_lowest _ _ _ rfl
theorem dX12_lowest_176 : decode cX12_lowest 176 = .ok (.iload 9, 2) := DX12_lowest _ _ _ rfl
theorem dX12_lowest_178 : decode cX12_lowest 178 = .ok (.ishr, 1) := DX12_lowest _ _ _ rfl
theorem dX12_lowest_179 : decode cX12_lowest 179 = .ok (.iconst 1, 1) := DX12_lowest _ _ _ rfl
theorem dX12_lowest_180 : decode cX12_lowest 180 = .ok (.iand, 1) := DX12_lowest _ _ _ rfl
theorem dX12_lowest_181 : decode cX12_lowest 181 = .ok (.iconst 1, 1) := DX12_lowest _ _ _ rfl
theorem dX12_lowest_182 : decode cX12_lowest 182 = .ok (.if_icmp .eq 68, 3) := DX12_lowest _ _ _ rfl
theorem dX12_lowest_185 : decode cX12_lowest 185 = .ok (.aload_n 0, 1) := DX12_lowest _ _ _ rfl
theorem dX12_lowest_186 : decode cX12_lowest 186 = .ok (.aload_n 0, 1) := DX12_lowest _ _ _ rfl
theorem dX12_lowest_187 : decode cX12_lowest 187 = .ok (.getfield 283, 3) := DX12_lowest _ _ _ rfl
theorem dX12_lowest_190 : decode cX12_lowest 190 = .ok (.iload 4, 2) := DX12_lowest _ _ _ rfl
theorem dX12_lowest_192 : decode cX12_lowest 192 = .ok (.iload 9, 2) := DX12_lowest _ _ _ rfl
theorem dX12_lowest_194 : decode cX12_lowest 194 = .ok (.iload_n 1, 1) := DX12_lowest _ _ _ rfl
theorem dX12_lowest_195 : decode cX12_lowest 195 = .ok (.invokevirtual 240, 3) := DX12_lowest _ _ _ rfl
theorem dX12_lowest_198 : decode cX12_lowest 198 = .ok (.ifCond .ne 6, 3) := DX12_lowest _ _ _ rfl
theorem dX12_lowest_204 : decode cX12_lowest 204 = .ok (.aload_n 0, 1) := DX12_lowest _ _ _ rfl
theorem dX12_lowest_205 : decode cX12_lowest 205 = .ok (.getfield 98, 3) := DX12_lowest _ _ _ rfl
theorem dX12_lowest_208 : decode cX12_lowest 208 = .ok (.iload 4, 2) := DX12_lowest _ _ _ rfl
theorem dX12_lowest_210 : decode cX12_lowest 210 = .ok (.iload 9, 2) := DX12_lowest _ _ _ rfl
theorem dX12_lowest_212 : decode cX12_lowest 212 = .ok (.iastore, 1) := DX12_lowest _ _ _ rfl
theorem dX12_lowest_213 : decode cX12_lowest 213 = .ok (.aload_n 0, 1) := DX12_lowest _ _ _ rfl
theorem dX12_lowest_214 : decode cX12_lowest 214 = .ok (.iload_n 1, 1) := DX12_lowest _ _ _ rfl
theorem dX12_lowest_215 : decode cX12_lowest 215 = .ok (.iload_n 2, 1) := DX12_lowest _ _ _ rfl
theorem dX12_lowest_216 : decode cX12_lowest 216 = .ok (.iload_n 3, 1) := DX12_lowest _ _ _ rfl
theorem dX12_lowest_217 : decode cX12_lowest 217 = .ok (.iload 4, 2) := DX12_lowest _ _ _ rfl
theorem dX12_lowest_219 : decode cX12_lowest 219 = .ok (.iconst 1, 1) := DX12_lowest _ _ _ rfl
theorem dX12_lowest_220 : decode cX12_lowest 220 = .ok (.iadd, 1) := DX12_lowest _ _ _ rfl
theorem dX12_lowest_221 : decode cX12_lowest 221 = .ok (.iload 5, 2) := DX12_lowest _ _ _ rfl
theorem dX12_lowest_223 : decode cX12_lowest 223 = .ok (.iconst 1, 1) := DX12_lowest _ _ _ rfl
theorem dX12_lowest_224 : decode cX12_lowest 224 = .ok (.iload 4, 2) := DX12_lowest _ _ _ rfl
theorem dX12_lowest_226 : decode cX12_lowest 226 = .ok (.ishl, 1) := DX12_lowest _ _ _ rfl
theorem dX12_lowest_227 : decode cX12_lowest 227 = .ok (.ior, 1) := DX12_lowest _ _ _ rfl
theorem dX12_lowest_228 : decode cX12_lowest 228 = .ok (.iconst 1, 1) := DX12_lowest _ _ _ rfl
theorem dX12_lowest_229 : decode cX12_lowest 229 = .ok (.iload 9, 2) := DX12_lowest _ _ _ rfl
theorem dX12_lowest_231 : decode cX12_lowest 231 = .ok (.ishl, 1) := DX12_lowest _ _ _ rfl
theorem dX12_lowest_232 : decode cX12_lowest 232 = .ok (.ior, 1) := DX12_lowest _ _ _ rfl
theorem dX12_lowest_233 : decode cX12_lowest 233 = .ok (.iload 6, 2) := DX12_lowest _ _ _ rfl
theorem dX12_lowest_235 : decode cX12_lowest 235 = .ok (.iconst 1, 1) := DX12_lowest _ _ _ rfl
theorem dX12_lowest_236 : decode cX12_lowest 236 = .ok (.iload 9, 2) := DX12_lowest _ _ _ rfl
theorem dX12_lowest_238 : decode cX12_lowest 238 = .ok (.ishl, 1) := DX12_lowest _ _ _ rfl
theorem dX12_lowest_239 : decode cX12_lowest 239 = .ok (.ior, 1) := DX12_lowest _ _ _ rfl
theorem dX12_lowest_240 : decode cX12_lowest 240 = .ok (.iload 7, 2) := DX12_lowest _ _ _ rfl
theorem dX12_lowest_242 : decode cX12_lowest 242 = .ok (.invokevirtual 327, 3) := DX12_lowest _ _ _ rfl
theorem dX12_lowest_245 : decode cX12_lowest 245 = .ok (.ifCond .eq 5, 3) := DX12_lowest _ _ _ rfl
theorem dX12_lowest_248 : decode cX12_lowest 248 = .ok (.iconst 1, 1) := DX12_lowest _ _ _ rfl
theorem dX12_lowest_249 : decode cX12_lowest 249 = .ok (.ireturn, 1) := DX12_lowest _ _ _ rfl
theorem dX12_lowest_201 : decode cX12_lowest 201 = .ok (.goto 49, 3) := DX12_lowest _ _ _ rfl
theorem dX12_lowest_14 : decode cX12_lowest 14 = .ok (.iload 6, 2) := DX12_lowest _ _ _ rfl
theorem dX12_lowest_16 : decode cX12_lowest 16 = .ok (.iload_n 2, 1) := DX12_lowest _ _ _ rfl
theorem dX12_lowest_17 : decode cX12_lowest 17 = .ok (.iconst (-1), 1) := DX12_lowest _ _ _ rfl
theorem dX12_lowest_18 : decode cX12_lowest 18 = .ok (.ixor, 1) := DX12_lowest _ _ _ rfl
theorem dX12_lowest_19 : decode cX12_lowest 19 = .ok (.iand, 1) := DX12_lowest _ _ _ rfl
theorem dX12_lowest_20 : decode cX12_lowest 20 = .ok (.istore 8, 2) := DX12_lowest _ _ _ rfl
theorem dX12_lowest_22 : decode cX12_lowest 22 = .ok (.iload 8, 2) := DX12_lowest _ _ _ rfl
theorem dX12_lowest_24 : decode cX12_lowest 24 = .ok (.aload_n 0, 1) := DX12_lowest _ _ _ rfl
theorem dX12_lowest_25 : decode cX12_lowest 25 = .ok (.getfield 20, 3) := DX12_lowest _ _ _ rfl
theorem dX12_lowest_28 : decode cX12_lowest 28 = .ok (.aload_n 0, 1) := DX12_lowest _ _ _ rfl
theorem dX12_lowest_29 : decode cX12_lowest 29 = .ok (.getfield 283, 3) := DX12_lowest _ _ _ rfl
theorem dX12_lowest_32 : decode cX12_lowest 32 = .ok (.iaload, 1) := DX12_lowest _ _ _ rfl
theorem dX12_lowest_33 : decode cX12_lowest 33 = .ok (.iconst (-1), 1) := DX12_lowest _ _ _ rfl
theorem dX12_lowest_34 : decode cX12_lowest 34 = .ok (.ixor, 1) := DX12_lowest _ _ _ rfl
theorem dX12_lowest_35 : decode cX12_lowest 35 = .ok (.iload_n 3, 1) := DX12_lowest _ _ _ rfl
theorem dX12_lowest_36 : decode cX12_lowest 36 = .ok (.ior, 1) := DX12_lowest _ _ _ rfl
theorem dX12_lowest_37 : decode cX12_lowest 37 = .ok (.iand, 1) := DX12_lowest _ _ _ rfl
theorem dX12_lowest_38 : decode cX12_lowest 38 = .ok (.istore 9, 2) := DX12_lowest _ _ _ rfl
theorem dX12_lowest_40 : decode cX12_lowest 40 = .ok (.aload_n 0, 1) := DX12_lowest _ _ _ rfl
theorem dX12_lowest_41 : decode cX12_lowest 41 = .ok (.iload_n 2, 1) := DX12_lowest _ _ _ rfl
theorem dX12_lowest_42 : decode cX12_lowest 42 = .ok (.iload 9, 2) := DX12_lowest _ _ _ rfl
theorem dX12_lowest_44 : decode cX12_lowest 44 = .ok (.ior, 1) := DX12_lowest _ _ _ rfl
theorem dX12_lowest_45 : decode cX12_lowest 45 = .ok (.putfield 321, 3) := DX12_lowest _ _ _ rfl
theorem dX12_lowest_48 : decode cX12_lowest 48 = .ok (.aload_n 0, 1) := DX12_lowest _ _ _ rfl
theorem dX12_lowest_49 : decode cX12_lowest 49 = .ok (.iload_n 3, 1) := DX12_lowest _ _ _ rfl
theorem dX12_lowest_50 : decode cX12_lowest 50 = .ok (.iload 8, 2) := DX12_lowest _ _ _ rfl
theorem dX12_lowest_52 : decode cX12_lowest 52 = .ok (.ior, 1) := DX12_lowest _ _ _ rfl
theorem dX12_lowest_53 : decode cX12_lowest 53 = .ok (.aload_n 0, 1) := DX12_lowest _ _ _ rfl
theorem dX12_lowest_54 : decode cX12_lowest 54 = .ok (.getfield 20, 3) := DX12_lowest _ _ _ rfl
theorem dX12_lowest_57 : decode cX12_lowest 57 = .ok (.aload_n 0, 1) := DX12_lowest _ _ _ rfl
theorem dX12_lowest_58 : decode cX12_lowest 58 = .ok (.getfield 283, 3) := DX12_lowest _ _ _ rfl
theorem dX12_lowest_61 : decode cX12_lowest 61 = .ok (.iaload, 1) := DX12_lowest _ _ _ rfl
theorem dX12_lowest_62 : decode cX12_lowest 62 = .ok (.iand, 1) := DX12_lowest _ _ _ rfl
theorem dX12_lowest_63 : decode cX12_lowest 63 = .ok (.aload_n 0, 1) := DX12_lowest _ _ _ rfl
theorem dX12_lowest_64 : decode cX12_lowest 64 = .ok (.getfield 321, 3) := DX12_lowest _ _ _ rfl
theorem dX12_lowest_67 : decode cX12_lowest 67 = .ok (.iconst (-1), 1) := DX12_lowest _ _ _ rfl
theorem dX12_lowest_68 : decode cX12_lowest 68 = .ok (.ixor, 1) := DX12_lowest _ _ _ rfl
theorem dX12_lowest_69 : decode cX12_lowest 69 = .ok (.iand, 1) := DX12_lowest _ _ _ rfl
theorem dX12_lowest_70 : decode cX12_lowest 70 = .ok (.putfield 324, 3) := DX12_lowest _ _ _ rfl
theorem dX12_lowest_73 : decode cX12_lowest 73 = .ok (.aload_n 0, 1) := DX12_lowest _ _ _ rfl
theorem dX12_lowest_74 : decode cX12_lowest 74 = .ok (.iload_n 1, 1) := DX12_lowest _ _ _ rfl
theorem dX12_lowest_75 : decode cX12_lowest 75 = .ok (.iconst 1, 1) := DX12_lowest _ _ _ rfl
theorem dX12_lowest_76 : decode cX12_lowest 76 = .ok (.iadd, 1) := DX12_lowest _ _ _ rfl
theorem dX12_lowest_77 : decode cX12_lowest 77 = .ok (.aload_n 0, 1) := DX12_lowest _ _ _ rfl
theorem dX12_lowest_78 : decode cX12_lowest 78 = .ok (.getfield 321, 3) := DX12_lowest _ _ _ rfl
theorem dX12_lowest_81 : decode cX12_lowest 81 = .ok (.aload_n 0, 1) := DX12_lowest _ _ _ rfl
theorem dX12_lowest_82 : decode cX12_lowest 82 = .ok (.getfield 324, 3) := DX12_lowest _ _ _ rfl
theorem dX12_lowest_85 : decode cX12_lowest 85 = .ok (.invokevirtual 305, 3) := DX12_lowest _ _ _ rfl
theorem dX12_lowest_88 : decode cX12_lowest 88 = .ok (.iload 7, 2) := DX12_lowest _ _ _ rfl
theorem dX12_lowest_90 : decode cX12_lowest 90 = .ok (.if_icmp .gt 7, 3) := DX12_lowest _ _ _ rfl
theorem dX12_lowest_97 : decode cX12_lowest 97 = .ok (.iconst 0, 1) := DX12_lowest _ _ _ rfl
theorem dX12_lowest_98 : decode cX12_lowest 98 = .ok (.ireturn, 1) := DX12_lowest _ _ _ rfl
theorem dX12_lowest_93 : decode cX12_lowest 93 = .ok (.iconst 1, 1) := DX12_lowest _ _ _ rfl
theorem dX12_lowest_94 : decode cX12_lowest 94 = .ok (.goto 4, 3) := DX12_lowest _ _ _ rfl
theorem dX12_found_9 : decode cX12_found 9 = .ok (.iload_n 3, 1) := DX12_found _ _ _ rfl
theorem dX12_found_10 : decode cX12_found 10 = .ok (.invokestatic 228, 3) := DX12_found _ _ _ rfl
theorem dX12_found_13 : decode cX12_found 13 = .ok (.ifCond .eq 13, 3) := DX12_found _ _ _ rfl
theorem dX12_found_16 : decode cX12_found 16 = .ok (.aload_n 0, 1) := DX12_found _ _ _ rfl
theorem dX12_found_17 : decode cX12_found 17 = .ok (.iload_n 1, 1) := DX12_found _ _ _ rfl
theorem dX12_found_18 : decode cX12_found 18 = .ok (.iload 5, 2) := DX12_found _ _ _ rfl
theorem dX12_found_20 : decode cX12_found 20 = .ok (.invokevirtual 237, 3) := DX12_found _ _ _ rfl
theorem dX12_found_23 : decode cX12_found 23 = .ok (.ifCond .ne 5, 3) := DX12_found _ _ _ rfl
theorem dX12_found_28 : decode cX12_found 28 = .ok (.aload_n 0, 1) := DX12_found _ _ _ rfl
theorem dX12_found_29 : decode cX12_found 29 = .ok (.iload_n 1, 1) := DX12_found _ _ _ rfl
theorem dX12_found_30 : decode cX12_found 30 = .ok (.iload_n 2, 1) := DX12_found _ _ _ rfl
theorem dX12_found_31 : decode cX12_found 31 = .ok (.iload_n 3, 1) := DX12_found _ _ _ rfl
theorem dX12_found_32 : decode cX12_found 32 = .ok (.invokevirtual 318, 3) := DX12_found _ _ _ rfl
theorem dX12_found_35 : decode cX12_found 35 = .ok (.istore 6, 2) := DX12_found _ _ _ rfl
theorem dX12_found_37 : decode cX12_found 37 = .ok (.iload 6, 2) := DX12_found _ _ _ rfl
theorem dX12_found_39 : decode cX12_found 39 = .ok (.bipush 99, 2) := DX12_found _ _ _ rfl
theorem dX12_found_41 : decode cX12_found 41 = .ok (.if_icmp .eq 16, 3) := DX12_found _ _ _ rfl
theorem dX12_found_57 : decode cX12_found 57 = .ok (.iconst (-1), 1) := DX12_found _ _ _ rfl
theorem dX12_found_58 : decode cX12_found 58 = .ok (.ireturn, 1) := DX12_found _ _ _ rfl
theorem dX12_found_44 : decode cX12_found 44 = .ok (.iload 4, 2) := DX12_found _ _ _ rfl
theorem dX12_found_46 : decode cX12_found 46 = .ok (.iconst 0, 1) := DX12_found _ _ _ rfl
theorem dX12_found_47 : decode cX12_found 47 = .ok (.iload 6, 2) := DX12_found _ _ _ rfl
theorem dX12_found_49 : decode cX12_found 49 = .ok (.iconst 1, 1) := DX12_found _ _ _ rfl
theorem dX12_found_50 : decode cX12_found 50 = .ok (.isub, 1) := DX12_found _ _ _ rfl
theorem dX12_found_51 : decode cX12_found 51 = .ok (.invokestatic 198, 3) := DX12_found _ _ _ rfl
theorem dX12_found_54 : decode cX12_found 54 = .ok (.ifCond .ne 5, 3) := DX12_found _ _ _ rfl
theorem dX12_found_59 : decode cX12_found 59 = .ok (.aload_n 0, 1) := DX12_found _ _ _ rfl
theorem dX12_found_60 : decode cX12_found 60 = .ok (.getfield 23, 3) := DX12_found _ _ _ rfl
theorem dX12_found_63 : decode cX12_found 63 = .ok (.iconst 4, 1) := DX12_found _ _ _ rfl
theorem dX12_found_64 : decode cX12_found 64 = .ok (.iload_n 1, 1) := DX12_found _ _ _ rfl
theorem dX12_found_65 : decode cX12_found 65 = .ok (.imul, 1) := DX12_found _ _ _ rfl
theorem dX12_found_66 : decode cX12_found 66 = .ok (.iload_n 2, 1) := DX12_found _ _ _ rfl
theorem dX12_found_67 : decode cX12_found 67 = .ok (.iadd, 1) := DX12_found _ _ _ rfl
theorem dX12_found_68 : decode cX12_found 68 = .ok (.iaload, 1) := DX12_found _ _ _ rfl
theorem dX12_found_69 : decode cX12_found 69 = .ok (.istore 7, 2) := DX12_found _ _ _ rfl
theorem dX12_found_71 : decode cX12_found 71 = .ok (.iconst 0, 1) := DX12_found _ _ _ rfl
theorem dX12_found_72 : decode cX12_found 72 = .ok (.istore 8, 2) := DX12_found _ _ _ rfl
theorem dX12_found_74 : decode cX12_found 74 = .ok (.iconst 0, 1) := DX12_found _ _ _ rfl
theorem dX12_found_75 : decode cX12_found 75 = .ok (.istore 9, 2) := DX12_found _ _ _ rfl
theorem dX12_found_77 : decode cX12_found 77 = .ok (.iload 9, 2) := DX12_found _ _ _ rfl
theorem dX12_found_79 : decode cX12_found 79 = .ok (.iload 4, 2) := DX12_found _ _ _ rfl
theorem dX12_found_81 : decode cX12_found 81 = .ok (.if_icmp .gt 45, 3) := DX12_found _ _ _ rfl
theorem dX12_found_126 : decode cX12_found 126 = .ok (.aload_n 0, 1) := DX12_found _ _ _ rfl
theorem dX12_found_127 : decode cX12_found 127 = .ok (.getfield 98, 3) := DX12_found _ _ _ rfl
theorem dX12_found_130 : decode cX12_found 130 = .ok (.iload 5, 2) := DX12_found _ _ _ rfl
theorem dX12_found_132 : decode cX12_found 132 = .ok (.iaload, 1) := DX12_found _ _ _ rfl
theorem dX12_found_133 : decode cX12_found 133 = .ok (.ireturn, 1) := DX12_found _ _ _ rfl
theorem dX12_found_84 : decode cX12_found 84 = .ok (.aload_n 0, 1) := DX12_found _ _ _ rfl
theorem dX12_found_85 : decode cX12_found 85 = .ok (.iload_n 3, 1) := DX12_found _ _ _ rfl
theorem dX12_found_86 : decode cX12_found 86 = .ok (.iload 9, 2) := DX12_found _ _ _ rfl
theorem dX12_found_88 : decode cX12_found 88 = .ok (.iadd, 1) := DX12_found _ _ _ rfl
theorem dX12_found_89 : decode cX12_found 89 = .ok (.iload 7, 2) := DX12_found _ _ _ rfl
theorem dX12_found_91 : decode cX12_found 91 = .ok (.iload 8, 2) := DX12_found _ _ _ rfl
theorem dX12_found_93 : decode cX12_found 93 = .ok (.iconst 0, 1) := DX12_found _ _ _ rfl
theorem dX12_found_94 : decode cX12_found 94 = .ok (.iconst 0, 1) := DX12_found _ _ _ rfl
theorem dX12_found_95 : decode cX12_found 95 = .ok (.iconst 0, 1) := DX12_found _ _ _ rfl
theorem dX12_found_96 : decode cX12_found 96 = .ok (.iload 6, 2) := DX12_found _ _ _ rfl
theorem dX12_found_98 : decode cX12_found 98 = .ok (.iload 9, 2) := DX12_found _ _ _ rfl
theorem dX12_found_100 : decode cX12_found 100 = .ok (.isub, 1) := DX12_found _ _ _ rfl
theorem dX12_found_101 : decode cX12_found 101 = .ok (.iconst 1, 1) := DX12_found _ _ _ rfl
theorem dX12_found_102 : decode cX12_found 102 = .ok (.isub, 1) := DX12_found _ _ _ rfl
theorem dX12_found_103 : decode cX12_found 103 = .ok (.invokevirtual 327, 3) := DX12_found _ _ _ rfl
theorem dX12_found_106 : decode cX12_found 106 = .ok (.istore 10, 2) := DX12_found _ _ _ rfl
theorem dX12_found_108 : decode cX12_found 108 = .ok (.aload_n 0, 1) := DX12_found _ _ _ rfl
theorem dX12_found_109 : decode cX12_found 109 = .ok (.getfield 321, 3) := DX12_found _ _ _ rfl
theorem dX12_found_112 : decode cX12_found 112 = .ok (.istore 7, 2) := DX12_found _ _ _ rfl
theorem dX12_found_114 : decode cX12_found 114 = .ok (.aload_n 0, 1) := DX12_found _ _ _ rfl
theorem dX12_found_115 : decode cX12_found 115 = .ok (.getfield 324, 3) := DX12_found _ _ _ rfl
theorem dX12_found_118 : decode cX12_found 118 = .ok (.istore 8, 2) := DX12_found _ _ _ rfl
theorem dX12_found_120 : decode cX12_found 120 = .ok (.iinc 9 1, 3) := DX12_found _ _ _ rfl
theorem dX12_found_123 : decode cX12_found 123 = .ok (.goto (-46), 3) := DX12_found _ _ _ rfl
def zb (x : Int32) : Int32 := if x = 0 then 0 else 1
theorem zb_z {x : Int32} : narrow .boolean (.int (zb x)) = .int (zb x) := by
  unfold zb
  split <;> rfl
theorem pin_i {vs : List Value} {i j : Nat} {a b c : Value} (h : i ≠ j) : ((vs.set i a).set j b).set i c = (vs.set i c).set j b := by
  rw [List.set_comm _ _ h, List.set_set, List.set_comm _ _ (Ne.symm h)]
theorem pin_j {vs : List Value} {i j : Nat} {a b c : Value} : ((vs.set i a).set j b).set j c = (vs.set i a).set j c := List.set_set ..
theorem pin_self {vs : List Value} {i j : Nat} {a b : Value} (hi : vs[i]? = some a) (hj : vs[j]? = some b) : (vs.set i a).set j b = vs := by
  have s : ∀ (l : List Value) (k : Nat) (v : Value), l[k]? = some v → l.set k v = l := fun l k v h => by
    obtain ⟨hlt, -⟩ := List.getElem?_eq_some_iff.mp h
    refine List.ext_getElem? fun q => ?_
    by_cases e : q = k
    · rw [e, List.getElem?_set_self hlt, h]
    · rw [List.getElem?_set_ne (Ne.symm e)]
  rw [s vs i a hi, s vs j b hj]
abbrev LWR : Type := Int32 × (Nat → Int32) × (Nat → Int32) × Int32 × Int32
abbrev LWT : Type := Nat → Int32 → Int32 → (Nat → Int32) → (Nat → Int32) → Int32 → Int32 → LWR
def L1_X12_lowest (an : Int32) (rA : Nat → Int32) (rB : Nat → Int32) (rF : Nat → Int32) (rT : Nat → Int32) (rW : Nat → Int32) (rO : Nat → Int32) (i : Nat) (lc : Nat) (pe : Nat) (h : Nat) (kw : Int32) (fj : Nat) (bu : Int32) (ca : Int32) (R : LWT) : Nat → Nat → (Nat → Int32) → (Nat → Int32) → Int32 → Int32 → Int32 × (Nat → Int32) × (Nat → Int32) × Int32 × Int32
  | 0, _, _, _, _, _ => (0, fun _ => 0, fun _ => 0, 0, 0)
  | m_ + 1, j1, fb34_1, fb35_1, y44_1, y45_1 => if nI pe ≤ nI j1 then ((zb ((R (fj + 1) bu ca fb34_1 (upd fb35_1 fj (7 : Int32)) y44_1 y45_1).1), ((R (fj + 1) bu ca fb34_1 (upd fb35_1 fj (7 : Int32)) y44_1 y45_1).2.1), ((R (fj + 1) bu ca fb34_1 (upd fb35_1 fj (7 : Int32)) y44_1 y45_1).2.2.1), (R (fj + 1) bu ca fb34_1 (upd fb35_1 fj (7 : Int32)) y44_1 y45_1).2.2.2.1, (R (fj + 1) bu ca fb34_1 (upd fb35_1 fj (7 : Int32)) y44_1 y45_1).2.2.2.2)) else (if nI j1 = nI fj then (L1_X12_lowest an rA rB rF rT rW rO i lc pe h kw fj bu ca R m_ (j1 + 1) fb34_1 fb35_1 y44_1 y45_1) else (if (((bu ||| an) ||| kw) >>> ((nI j1) &&& 31)) &&& (1 : Int32) = 1 then (L1_X12_lowest an rA rB rF rT rW rO i lc pe h kw fj bu ca R m_ (j1 + 1) fb34_1 fb35_1 y44_1 y45_1) else (if F_X12_mayCall rA rB rF rT rW rO lc i fj j1 (nI h) = 0 then (L1_X12_lowest an rA rB rF rT rW rO i lc pe h kw fj bu ca R m_ (j1 + 1) fb34_1 fb35_1 y44_1 y45_1) else (if zb ((R (fj + 1) ((bu ||| ((1 : Int32) <<< ((nI fj) &&& 31))) ||| ((1 : Int32) <<< ((nI j1) &&& 31))) (ca ||| ((1 : Int32) <<< ((nI j1) &&& 31))) fb34_1 (upd fb35_1 fj (nI j1)) y44_1 y45_1).1) = 0 then (L1_X12_lowest an rA rB rF rT rW rO i lc pe h kw fj bu ca R m_ (j1 + 1) ((R (fj + 1) ((bu ||| ((1 : Int32) <<< ((nI fj) &&& 31))) ||| ((1 : Int32) <<< ((nI j1) &&& 31))) (ca ||| ((1 : Int32) <<< ((nI j1) &&& 31))) fb34_1 (upd fb35_1 fj (nI j1)) y44_1 y45_1).2.1) ((R (fj + 1) ((bu ||| ((1 : Int32) <<< ((nI fj) &&& 31))) ||| ((1 : Int32) <<< ((nI j1) &&& 31))) (ca ||| ((1 : Int32) <<< ((nI j1) &&& 31))) fb34_1 (upd fb35_1 fj (nI j1)) y44_1 y45_1).2.2.1) ((R (fj + 1) ((bu ||| ((1 : Int32) <<< ((nI fj) &&& 31))) ||| ((1 : Int32) <<< ((nI j1) &&& 31))) (ca ||| ((1 : Int32) <<< ((nI j1) &&& 31))) fb34_1 (upd fb35_1 fj (nI j1)) y44_1 y45_1).2.2.2.1) ((R (fj + 1) ((bu ||| ((1 : Int32) <<< ((nI fj) &&& 31))) ||| ((1 : Int32) <<< ((nI j1) &&& 31))) (ca ||| ((1 : Int32) <<< ((nI j1) &&& 31))) fb34_1 (upd fb35_1 fj (nI j1)) y44_1 y45_1).2.2.2.2)) else (((1 : Int32), ((R (fj + 1) ((bu ||| ((1 : Int32) <<< ((nI fj) &&& 31))) ||| ((1 : Int32) <<< ((nI j1) &&& 31))) (ca ||| ((1 : Int32) <<< ((nI j1) &&& 31))) fb34_1 (upd fb35_1 fj (nI j1)) y44_1 y45_1).2.1), ((R (fj + 1) ((bu ||| ((1 : Int32) <<< ((nI fj) &&& 31))) ||| ((1 : Int32) <<< ((nI j1) &&& 31))) (ca ||| ((1 : Int32) <<< ((nI j1) &&& 31))) fb34_1 (upd fb35_1 fj (nI j1)) y44_1 y45_1).2.2.1), (R (fj + 1) ((bu ||| ((1 : Int32) <<< ((nI fj) &&& 31))) ||| ((1 : Int32) <<< ((nI j1) &&& 31))) (ca ||| ((1 : Int32) <<< ((nI j1) &&& 31))) fb34_1 (upd fb35_1 fj (nI j1)) y44_1 y45_1).2.2.2.1, (R (fj + 1) ((bu ||| ((1 : Int32) <<< ((nI fj) &&& 31))) ||| ((1 : Int32) <<< ((nI j1) &&& 31))) (ca ||| ((1 : Int32) <<< ((nI j1) &&& 31))) fb34_1 (upd fb35_1 fj (nI j1)) y44_1 y45_1).2.2.2.2))))))
def F_X12_lowest (an : Int32) (rA : Nat → Int32) (rB : Nat → Int32) (rF : Nat → Int32) (rT : Nat → Int32) (rW : Nat → Int32) (rO : Nat → Int32) (gN : Nat → Int32) (gR : Nat → Int32) (ka : Int32) (kb : Int32) (i : Nat) (lc : Nat) (pe : Nat) (h : Nat) (kw : Int32) (fj : Nat) (bu : Int32) (ca : Int32) (R : LWT) : Int32 × (Nat → Int32) × (Nat → Int32) × Int32 × Int32 := if (kw >>> ((nI fj) &&& 31)) &&& (1 : Int32) = 1 then (if (an >>> ((nI fj) &&& 31)) &&& (1 : Int32) = 0 then (if (bu >>> ((nI fj) &&& 31)) &&& (1 : Int32) = 0 then (L1_X12_lowest an rA rB rF rT rW rO i lc pe h kw fj bu ca R (pe + 1) 0 gN gR ka kb) else ((zb ((R (fj + 1) bu ca gN (upd gR fj (7 : Int32)) ka kb).1), ((R (fj + 1) bu ca gN (upd gR fj (7 : Int32)) ka kb).2.1), ((R (fj + 1) bu ca gN (upd gR fj (7 : Int32)) ka kb).2.2.1), (R (fj + 1) bu ca gN (upd gR fj (7 : Int32)) ka kb).2.2.2.1, (R (fj + 1) bu ca gN (upd gR fj (7 : Int32)) ka kb).2.2.2.2))) else ((zb ((R (fj + 1) bu ca gN (upd gR fj (7 : Int32)) ka kb).1), ((R (fj + 1) bu ca gN (upd gR fj (7 : Int32)) ka kb).2.1), ((R (fj + 1) bu ca gN (upd gR fj (7 : Int32)) ka kb).2.2.1), (R (fj + 1) bu ca gN (upd gR fj (7 : Int32)) ka kb).2.2.2.1, (R (fj + 1) bu ca gN (upd gR fj (7 : Int32)) ka kb).2.2.2.2))) else ((zb ((R (fj + 1) bu ca gN (upd gR fj (7 : Int32)) ka kb).1), ((R (fj + 1) bu ca gN (upd gR fj (7 : Int32)) ka kb).2.1), ((R (fj + 1) bu ca gN (upd gR fj (7 : Int32)) ka kb).2.2.1), (R (fj + 1) bu ca gN (upd gR fj (7 : Int32)) ka kb).2.2.2.1, (R (fj + 1) bu ca gN (upd gR fj (7 : Int32)) ka kb).2.2.2.2))
set_option maxHeartbeats 4000000 in
set_option maxRecDepth 100000 in
theorem K_X12_lowest (l : Launch) (g : GG) (h0 : Nat) (vs : List Value) (am : Int32) (an : Int32) (b6 : Nat) (rP : Nat → Int32) (b7 : Nat) (rL : Nat → Int32) (b8 : Nat) (rD : Nat → Int32) (b12 : Nat) (rA : Nat → Int32) (b13 : Nat) (rB : Nat → Int32) (b14 : Nat) (rF : Nat → Int32) (b15 : Nat) (rT : Nat → Int32) (b16 : Nat) (rW : Nat → Int32) (b17 : Nat) (rO : Nat → Int32) (b34 : Nat) (gN : Nat → Int32) (b35 : Nat) (gR : Nat → Int32) (ka : Int32) (kb : Int32) (i : Nat) (lc : Nat) (pe : Nat) (h : Nat) (kw : Int32) (oz : Int32) (fj : Nat) (bu : Int32) (ca : Int32) (lf : Int32) (R : LWT) (dd : Nat) (hdd : 1 ≤ dd) (hlen : vs.length = 64) (h38_ : vs[38]? = some (.int am)) (h39_ : vs[39]? = some (.int an)) (h6_ : vs[6]? = some (.ref b6)) (h7_ : vs[7]? = some (.ref b7)) (h8_ : vs[8]? = some (.ref b8)) (h12_ : vs[12]? = some (.ref b12)) (h13_ : vs[13]? = some (.ref b13)) (h14_ : vs[14]? = some (.ref b14)) (h15_ : vs[15]? = some (.ref b15)) (h16_ : vs[16]? = some (.ref b16)) (h17_ : vs[17]? = some (.ref b17)) (h34_ : vs[34]? = some (.ref b34)) (h35_ : vs[35]? = some (.ref b35)) (hi : i < 11) (hlc : lc ≤ 12) (hL : rL i = nI lc) (hpe : pe ≤ 7) (hP : rP i = nI pe) (h37_ : vs[37]? = some (.int (nI i))) (h19_ : vs[19]? = some (.int (-1))) (h20_ : vs[20]? = some (.int (-1))) (hlt : fj < pe) (hh : 1 ≤ h ∧ h ≤ 24) (hkw : s7 kw) (hoz : s7 oz) (hca : s7 ca) (hrec : ∀ (N G : Nat → Int32) (ka kb bu ca : Int32), s7 ca → MetI l g yX12_lowest cX12_lowest 10 (some .boolean) dd 0 0 [.ref h0, .int (nI h), .int kw, .int oz, .int (nI (fj + 1)), .int bu, .int ca, .int lf] [(h0, .inr (12, ((vs.set 44 (.int ka)).set 45 (.int kb)))), (b6, .inl (g.2.1 1, 11, .inl rP)), (b7, .inl (g.2.1 1, 11, .inl rL)), (b8, .inl (g.2.1 1, 11, .inl rD)), (b12, .inl (g.2.1 1, 132, .inl rA)), (b13, .inl (g.2.1 1, 132, .inl rB)), (b14, .inl (g.2.1 1, 132, .inl rF)), (b15, .inl (g.2.1 1, 132, .inl rT)), (b16, .inl (g.2.1 1, 132, .inl rW)), (b17, .inl (g.2.1 3, 132, .inl rO)), (b34, .inl (g.2.1 0, 425984, .inl N)), (b35, .inl (g.2.1 1, 7, .inl G))] (fun r u => r = zb (R (fj + 1) bu ca N G ka kb).1 ∧ u = [(h0, .inr (12, ((vs.set 44 (.int ((R (fj + 1) bu ca N G ka kb).2.2.2.1))).set 45 (.int ((R (fj + 1) bu ca N G ka kb).2.2.2.2))))), (b6, .inl (g.2.1 1, 11, .inl rP)), (b7, .inl (g.2.1 1, 11, .inl rL)), (b8, .inl (g.2.1 1, 11, .inl rD)), (b12, .inl (g.2.1 1, 132, .inl rA)), (b13, .inl (g.2.1 1, 132, .inl rB)), (b14, .inl (g.2.1 1, 132, .inl rF)), (b15, .inl (g.2.1 1, 132, .inl rT)), (b16, .inl (g.2.1 1, 132, .inl rW)), (b17, .inl (g.2.1 3, 132, .inl rO)), (b34, .inl (g.2.1 0, 425984, .inl ((R (fj + 1) bu ca N G ka kb).2.1))), (b35, .inl (g.2.1 1, 7, .inl ((R (fj + 1) bu ca N G ka kb).2.2.1)))])) : MetI l g yX12_lowest cX12_lowest 10 (some .boolean) (dd + 1) 0 0 [.ref h0, .int (nI h), .int kw, .int oz, .int (nI fj), .int bu, .int ca, .int lf] [(h0, .inr (12, ((vs.set 44 (.int ka)).set 45 (.int kb)))), (b6, .inl (g.2.1 1, 11, .inl rP)), (b7, .inl (g.2.1 1, 11, .inl rL)), (b8, .inl (g.2.1 1, 11, .inl rD)), (b12, .inl (g.2.1 1, 132, .inl rA)), (b13, .inl (g.2.1 1, 132, .inl rB)), (b14, .inl (g.2.1 1, 132, .inl rF)), (b15, .inl (g.2.1 1, 132, .inl rT)), (b16, .inl (g.2.1 1, 132, .inl rW)), (b17, .inl (g.2.1 3, 132, .inl rO)), (b34, .inl (g.2.1 0, 425984, .inl gN)), (b35, .inl (g.2.1 1, 7, .inl gR))] (fun r u => r = (F_X12_lowest an rA rB rF rT rW rO gN gR ka kb i lc pe h kw fj bu ca R).1 ∧ u = [(h0, .inr (12, ((vs.set 44 (.int ((F_X12_lowest an rA rB rF rT rW rO gN gR ka kb i lc pe h kw fj bu ca R).2.2.2.1))).set 45 (.int ((F_X12_lowest an rA rB rF rT rW rO gN gR ka kb i lc pe h kw fj bu ca R).2.2.2.2))))), (b6, .inl (g.2.1 1, 11, .inl rP)), (b7, .inl (g.2.1 1, 11, .inl rL)), (b8, .inl (g.2.1 1, 11, .inl rD)), (b12, .inl (g.2.1 1, 132, .inl rA)), (b13, .inl (g.2.1 1, 132, .inl rB)), (b14, .inl (g.2.1 1, 132, .inl rF)), (b15, .inl (g.2.1 1, 132, .inl rT)), (b16, .inl (g.2.1 1, 132, .inl rW)), (b17, .inl (g.2.1 3, 132, .inl rO)), (b34, .inl (g.2.1 0, 425984, .inl ((F_X12_lowest an rA rB rF rT rW rO gN gR ka kb i lc pe h kw fj bu ca R).2.1))), (b35, .inl (g.2.1 1, 7, .inl ((F_X12_lowest an rA rB rF rT rW rO gN gR ka kb i lc pe h kw fj bu ca R).2.2.1)))]) := by
  refine MetI.of (own := RX12) rfl (by decide) (Nat.le_of_ble_eq_true rfl) ?_
  intro p e s m below meth c A ls args Q hQ X hr hin hW hl
  have hx := X.1
  have hb := X.2.1
  have hl : lv_has ls 10 [(0, .ref h0), (1, .int (nI h)), (2, .int kw), (3, .int oz), (4, .int (nI fj)), (5, .int bu), (6, .int ca), (7, .int lf)] := hl
  refine lv_iload (pc := 0) hx hb dX12_lowest_0 (lv_at hl 4 rfl) ?_
  refine lv_aload_n (pc := 2) hx hb dX12_lowest_2 rfl (lv_at hl 0 rfl) ?_
  refine r_get X hW 0 ciX12 6 rfl (by decide) m_1237 rfl (sv_ne (k := 45) (by decide) (sv_ne (k := 44) (by decide) h6_)) dX12_lowest_3 ?_
  refine lv_aload_n (pc := 6) hx hb dX12_lowest_6 rfl (lv_at hl 0 rfl) ?_
  refine r_get X hW 0 ciX12 37 rfl (by decide) m_1268 rfl (sv_ne (k := 45) (by decide) (sv_ne (k := 44) (by decide) h37_)) dX12_lowest_7 ?_
  refine r_iald X hW 1 rfl (vp_in_nI (by omega) (by decide)) dX12_lowest_10 ?_
  refine lv_topi (fun v1 ev1 => ?_)
  obtain rfl : v1 = rP i := ev1.trans (by rw [nI_clamp (by omega)])
  rw [hP]
  refine lv_icmp_ne (tgt := 99) (pc := 11) hx hb dX12_lowest_11 rfl (fun c2 => ?_) (fun c2 => absurd c2 (fun q => absurd ((nI_eq (a := fj) (b := pe) (by omega) (by omega)).mp q) (by omega)))
  refine lv_iload_n (pc := 99) hx hb dX12_lowest_99 rfl (lv_at hl 2 rfl) ?_
  refine lv_iload (pc := 100) hx hb dX12_lowest_100 (lv_at hl 4 rfl) ?_
  refine lv_ishr (pc := 102) hx hb dX12_lowest_102 ?_
  refine lv_iconst (v := 1) (pc := 103) hx hb dX12_lowest_103 (by decide) ?_
  refine lv_iand (pc := 104) hx hb dX12_lowest_104 ?_
  refine lv_iconst (v := 1) (pc := 105) hx hb dX12_lowest_105 (by decide) ?_
  refine lv_icmp_ne (tgt := 135) (pc := 106) hx hb dX12_lowest_106 rfl (fun c3 => ?_) (fun c3 => ?_)
  · refine lv_iconst (v := 0) (pc := 135) hx hb dX12_lowest_135 (by decide) ?_
    refine lv_istore (lv' := [(8, .int 0), (0, .ref h0), (1, .int (nI h)), (2, .int kw), (3, .int oz), (4, .int (nI fj)), (5, .int bu), (6, .int ca), (7, .int lf)]) (pc := 136) hx hb dX12_lowest_136 hl (by decide) rfl (fun ls hl => ?_)
    refine lv_iconst (v := 0) (pc := 138) hx hb dX12_lowest_138 (by decide) ?_
    refine lv_istore (lv' := [(9, .int 0), (8, .int 0), (0, .ref h0), (1, .int (nI h)), (2, .int kw), (3, .int oz), (4, .int (nI fj)), (5, .int bu), (6, .int ca), (7, .int lf)]) (pc := 139) hx hb dX12_lowest_139 hl (by decide) rfl (fun ls hl => ?_)
    refine lv_iload (pc := 141) hx hb dX12_lowest_141 (lv_at hl 0 rfl) ?_
    refine lv_aload_n (pc := 143) hx hb dX12_lowest_143 rfl (lv_at hl 2 rfl) ?_
    refine r_get X hW 0 ciX12 6 rfl (by decide) m_1237 rfl (sv_ne (k := 45) (by decide) (sv_ne (k := 44) (by decide) h6_)) dX12_lowest_144 ?_
    refine lv_aload_n (pc := 147) hx hb dX12_lowest_147 rfl (lv_at hl 2 rfl) ?_
    refine r_get X hW 0 ciX12 37 rfl (by decide) m_1268 rfl (sv_ne (k := 45) (by decide) (sv_ne (k := 44) (by decide) h37_)) dX12_lowest_148 ?_
    refine r_iald X hW 1 rfl (vp_in_nI (by omega) (by decide)) dX12_lowest_151 ?_
    refine lv_topi (fun v5 ev5 => ?_)
    obtain rfl : v5 = rP i := ev5.trans (by rw [nI_clamp (by omega)])
    rw [hP]
    refine lv_icmp_ge (tgt := 256) (pc := 152) hx hb dX12_lowest_152 rfl (fun c6 => absurd c6 (fun q => absurd ((nI_leI (a := pe) (b := 0) (by omega) (by omega)).mp q) (by omega))) (fun c6 => ?_)
    refine lv_iload (pc := 155) hx hb dX12_lowest_155 (lv_at hl 1 rfl) ?_
    refine lv_if_eq (tgt := 256) (pc := 157) hx hb dX12_lowest_157 rfl (fun c7 => ?_) (fun c7 => absurd (by decide) c7)
    refine lv_aload_n (pc := 256) hx hb dX12_lowest_256 rfl (lv_at hl 2 rfl) ?_
    refine r_get X hW 0 ciX12 35 rfl (by decide) m_1266 rfl (sv_ne (k := 45) (by decide) (sv_ne (k := 44) (by decide) h35_)) dX12_lowest_257 ?_
    refine lv_iload (pc := 260) hx hb dX12_lowest_260 (lv_at hl 6 rfl) ?_
    refine lv_bipush (v := 7) (pc := 262) hx hb dX12_lowest_262 (by decide) ?_
    refine r_iast (ws' := [(h0, .inr (12, ((vs.set 44 (.int ka)).set 45 (.int kb)))), (b6, .inl (g.2.1 1, 11, .inl rP)), (b7, .inl (g.2.1 1, 11, .inl rL)), (b8, .inl (g.2.1 1, 11, .inl rD)), (b12, .inl (g.2.1 1, 132, .inl rA)), (b13, .inl (g.2.1 1, 132, .inl rB)), (b14, .inl (g.2.1 1, 132, .inl rF)), (b15, .inl (g.2.1 1, 132, .inl rT)), (b16, .inl (g.2.1 1, 132, .inl rW)), (b17, .inl (g.2.1 3, 132, .inl rO)), (b34, .inl (g.2.1 0, 425984, .inl gN)), (b35, .inl (g.2.1 1, 7, .inl (upd gR fj (7 : Int32))))]) X hW 11 rfl (vp_in_nI (by omega) (by decide)) (f' := (upd gR fj (7 : Int32))) (by rw [nI_clamp (by omega)]) rfl dX12_lowest_264 (fun H locs hW => ?_)
    refine lv_aload_n (pc := 265) hx hb dX12_lowest_265 rfl (lv_at hl 2 rfl) ?_
    refine lv_iload_n (pc := 266) hx hb dX12_lowest_266 rfl (lv_at hl 3 rfl) ?_
    refine lv_iload_n (pc := 267) hx hb dX12_lowest_267 rfl (lv_at hl 4 rfl) ?_
    refine lv_iload_n (pc := 268) hx hb dX12_lowest_268 rfl (lv_at hl 5 rfl) ?_
    refine lv_iload (pc := 269) hx hb dX12_lowest_269 (lv_at hl 6 rfl) ?_
    refine lv_iconst (v := 1) (pc := 271) hx hb dX12_lowest_271 (by decide) ?_
    refine lv_iadd (pc := 272) hx hb dX12_lowest_272 ?_
    refine lv_topi (fun v8 ev8 => ?_)
    obtain rfl : v8 = nI (fj + 1) := ev8.trans (nI_add fj 1)
    refine lv_iload (pc := 273) hx hb dX12_lowest_273 (lv_at hl 7 rfl) ?_
    refine lv_iload (pc := 275) hx hb dX12_lowest_275 (lv_at hl 8 rfl) ?_
    refine lv_iload (pc := 277) hx hb dX12_lowest_277 (lv_at hl 9 rfl) ?_
    refine c_Vi (pc := 279) (As := [.int (nI h), .int kw, .int oz, .int (nI (fj + 1)), .int bu, .int ca, .int lf]) (rest := []) (wr := []) X hW 0 ciX12 rfl (hrec gN (upd gR fj (7 : Int32)) ka kb bu ca hca) vX12_327 [0, 1, 2, 3, 4, 5, 6, 7, 8, 9, 10, 11] [] rfl rfl rfl rfl rfl rfl hl.1 rfl (Nat.le_of_ble_eq_true rfl) ⟨by show _ ≤ dd + 1; omega, by show _ ≤ 40 * (dd + 1); omega⟩ ⟨Nat.le_of_ble_eq_true rfl, Nat.le_of_ble_eq_true rfl⟩ dX12_lowest_279 (fun r9 u9 H locs hq hW => ?_)
    obtain ⟨rfl, rfl⟩ := hq
    have hW : WD g A s _ _ [(h0, .inr (12, ((vs.set 44 (.int ((R (fj + 1) bu ca gN (upd gR fj (7 : Int32)) ka kb).2.2.2.1))).set 45 (.int ((R (fj + 1) bu ca gN (upd gR fj (7 : Int32)) ka kb).2.2.2.2))))), (b6, .inl (g.2.1 1, 11, .inl rP)), (b7, .inl (g.2.1 1, 11, .inl rL)), (b8, .inl (g.2.1 1, 11, .inl rD)), (b12, .inl (g.2.1 1, 132, .inl rA)), (b13, .inl (g.2.1 1, 132, .inl rB)), (b14, .inl (g.2.1 1, 132, .inl rF)), (b15, .inl (g.2.1 1, 132, .inl rT)), (b16, .inl (g.2.1 1, 132, .inl rW)), (b17, .inl (g.2.1 3, 132, .inl rO)), (b34, .inl (g.2.1 0, 425984, .inl ((R (fj + 1) bu ca gN (upd gR fj (7 : Int32)) ka kb).2.1))), (b35, .inl (g.2.1 1, 7, .inl ((R (fj + 1) bu ca gN (upd gR fj (7 : Int32)) ka kb).2.2.1)))] := hW
    have hF : F_X12_lowest an rA rB rF rT rW rO gN gR ka kb i lc pe h kw fj bu ca R = (zb ((R (fj + 1) bu ca gN (upd gR fj (7 : Int32)) ka kb).1), ((R (fj + 1) bu ca gN (upd gR fj (7 : Int32)) ka kb).2.1), ((R (fj + 1) bu ca gN (upd gR fj (7 : Int32)) ka kb).2.2.1), (R (fj + 1) bu ca gN (upd gR fj (7 : Int32)) ka kb).2.2.2.1, (R (fj + 1) bu ca gN (upd gR fj (7 : Int32)) ka kb).2.2.2.2) := show F_X12_lowest an rA rB rF rT rW rO gN gR ka kb i lc pe h kw fj bu ca R = (zb ((R (fj + 1) bu ca gN (upd gR fj (7 : Int32)) ka kb).1), ((R (fj + 1) bu ca gN (upd gR fj (7 : Int32)) ka kb).2.1), ((R (fj + 1) bu ca gN (upd gR fj (7 : Int32)) ka kb).2.2.1), (R (fj + 1) bu ca gN (upd gR fj (7 : Int32)) ka kb).2.2.2.1, (R (fj + 1) bu ca gN (upd gR fj (7 : Int32)) ka kb).2.2.2.2) from by rw [F_X12_lowest, if_neg c3]
    exact e_z (u := [(h0, .inr (12, ((vs.set 44 (.int ((R (fj + 1) bu ca gN (upd gR fj (7 : Int32)) ka kb).2.2.2.1))).set 45 (.int ((R (fj + 1) bu ca gN (upd gR fj (7 : Int32)) ka kb).2.2.2.2))))), (b6, .inl (g.2.1 1, 11, .inl rP)), (b7, .inl (g.2.1 1, 11, .inl rL)), (b8, .inl (g.2.1 1, 11, .inl rD)), (b12, .inl (g.2.1 1, 132, .inl rA)), (b13, .inl (g.2.1 1, 132, .inl rB)), (b14, .inl (g.2.1 1, 132, .inl rF)), (b15, .inl (g.2.1 1, 132, .inl rT)), (b16, .inl (g.2.1 1, 132, .inl rW)), (b17, .inl (g.2.1 3, 132, .inl rO)), (b34, .inl (g.2.1 0, 425984, .inl ((R (fj + 1) bu ca gN (upd gR fj (7 : Int32)) ka kb).2.1))), (b35, .inl (g.2.1 1, 7, .inl ((R (fj + 1) bu ca gN (upd gR fj (7 : Int32)) ka kb).2.2.1)))]) X hQ hr (hW) (zb_z ..) [0, 1, 2, 3, 4, 5, 6, 7, 8, 9, 10, 11] rfl rfl (⟨(congrArg Prod.fst hF).symm, by rw [hF]⟩) ⟨Nat.le_of_ble_eq_true rfl, Nat.le_of_ble_eq_true rfl⟩ dX12_lowest_282
  · refine lv_aload_n (pc := 109) hx hb dX12_lowest_109 rfl (lv_at hl 0 rfl) ?_
    refine r_get X hW 0 ciX12 39 rfl (by decide) m_1270 rfl (sv_ne (k := 45) (by decide) (sv_ne (k := 44) (by decide) h39_)) dX12_lowest_110 ?_
    refine lv_iload (pc := 113) hx hb dX12_lowest_113 (lv_at hl 4 rfl) ?_
    refine lv_ishr (pc := 115) hx hb dX12_lowest_115 ?_
    refine lv_iconst (v := 1) (pc := 116) hx hb dX12_lowest_116 (by decide) ?_
    refine lv_iand (pc := 117) hx hb dX12_lowest_117 ?_
    refine lv_if_ne (tgt := 135) (pc := 118) hx hb dX12_lowest_118 rfl (fun c11 => ?_) (fun c11 => ?_)
    · refine lv_iconst (v := 0) (pc := 135) hx hb dX12_lowest_135 (by decide) ?_
      refine lv_istore (lv' := [(8, .int 0), (0, .ref h0), (1, .int (nI h)), (2, .int kw), (3, .int oz), (4, .int (nI fj)), (5, .int bu), (6, .int ca), (7, .int lf)]) (pc := 136) hx hb dX12_lowest_136 hl (by decide) rfl (fun ls hl => ?_)
      refine lv_iconst (v := 0) (pc := 138) hx hb dX12_lowest_138 (by decide) ?_
      refine lv_istore (lv' := [(9, .int 0), (8, .int 0), (0, .ref h0), (1, .int (nI h)), (2, .int kw), (3, .int oz), (4, .int (nI fj)), (5, .int bu), (6, .int ca), (7, .int lf)]) (pc := 139) hx hb dX12_lowest_139 hl (by decide) rfl (fun ls hl => ?_)
      refine lv_iload (pc := 141) hx hb dX12_lowest_141 (lv_at hl 0 rfl) ?_
      refine lv_aload_n (pc := 143) hx hb dX12_lowest_143 rfl (lv_at hl 2 rfl) ?_
      refine r_get X hW 0 ciX12 6 rfl (by decide) m_1237 rfl (sv_ne (k := 45) (by decide) (sv_ne (k := 44) (by decide) h6_)) dX12_lowest_144 ?_
      refine lv_aload_n (pc := 147) hx hb dX12_lowest_147 rfl (lv_at hl 2 rfl) ?_
      refine r_get X hW 0 ciX12 37 rfl (by decide) m_1268 rfl (sv_ne (k := 45) (by decide) (sv_ne (k := 44) (by decide) h37_)) dX12_lowest_148 ?_
      refine r_iald X hW 1 rfl (vp_in_nI (by omega) (by decide)) dX12_lowest_151 ?_
      refine lv_topi (fun v13 ev13 => ?_)
      obtain rfl : v13 = rP i := ev13.trans (by rw [nI_clamp (by omega)])
      rw [hP]
      refine lv_icmp_ge (tgt := 256) (pc := 152) hx hb dX12_lowest_152 rfl (fun c14 => absurd c14 (fun q => absurd ((nI_leI (a := pe) (b := 0) (by omega) (by omega)).mp q) (by omega))) (fun c14 => ?_)
      refine lv_iload (pc := 155) hx hb dX12_lowest_155 (lv_at hl 1 rfl) ?_
      refine lv_if_eq (tgt := 256) (pc := 157) hx hb dX12_lowest_157 rfl (fun c15 => ?_) (fun c15 => absurd (by decide) c15)
      refine lv_aload_n (pc := 256) hx hb dX12_lowest_256 rfl (lv_at hl 2 rfl) ?_
      refine r_get X hW 0 ciX12 35 rfl (by decide) m_1266 rfl (sv_ne (k := 45) (by decide) (sv_ne (k := 44) (by decide) h35_)) dX12_lowest_257 ?_
      refine lv_iload (pc := 260) hx hb dX12_lowest_260 (lv_at hl 6 rfl) ?_
      refine lv_bipush (v := 7) (pc := 262) hx hb dX12_lowest_262 (by decide) ?_
      refine r_iast (ws' := [(h0, .inr (12, ((vs.set 44 (.int ka)).set 45 (.int kb)))), (b6, .inl (g.2.1 1, 11, .inl rP)), (b7, .inl (g.2.1 1, 11, .inl rL)), (b8, .inl (g.2.1 1, 11, .inl rD)), (b12, .inl (g.2.1 1, 132, .inl rA)), (b13, .inl (g.2.1 1, 132, .inl rB)), (b14, .inl (g.2.1 1, 132, .inl rF)), (b15, .inl (g.2.1 1, 132, .inl rT)), (b16, .inl (g.2.1 1, 132, .inl rW)), (b17, .inl (g.2.1 3, 132, .inl rO)), (b34, .inl (g.2.1 0, 425984, .inl gN)), (b35, .inl (g.2.1 1, 7, .inl (upd gR fj (7 : Int32))))]) X hW 11 rfl (vp_in_nI (by omega) (by decide)) (f' := (upd gR fj (7 : Int32))) (by rw [nI_clamp (by omega)]) rfl dX12_lowest_264 (fun H locs hW => ?_)
      refine lv_aload_n (pc := 265) hx hb dX12_lowest_265 rfl (lv_at hl 2 rfl) ?_
      refine lv_iload_n (pc := 266) hx hb dX12_lowest_266 rfl (lv_at hl 3 rfl) ?_
      refine lv_iload_n (pc := 267) hx hb dX12_lowest_267 rfl (lv_at hl 4 rfl) ?_
      refine lv_iload_n (pc := 268) hx hb dX12_lowest_268 rfl (lv_at hl 5 rfl) ?_
      refine lv_iload (pc := 269) hx hb dX12_lowest_269 (lv_at hl 6 rfl) ?_
      refine lv_iconst (v := 1) (pc := 271) hx hb dX12_lowest_271 (by decide) ?_
      refine lv_iadd (pc := 272) hx hb dX12_lowest_272 ?_
      refine lv_topi (fun v16 ev16 => ?_)
      obtain rfl : v16 = nI (fj + 1) := ev16.trans (nI_add fj 1)
      refine lv_iload (pc := 273) hx hb dX12_lowest_273 (lv_at hl 7 rfl) ?_
      refine lv_iload (pc := 275) hx hb dX12_lowest_275 (lv_at hl 8 rfl) ?_
      refine lv_iload (pc := 277) hx hb dX12_lowest_277 (lv_at hl 9 rfl) ?_
      refine c_Vi (pc := 279) (As := [.int (nI h), .int kw, .int oz, .int (nI (fj + 1)), .int bu, .int ca, .int lf]) (rest := []) (wr := []) X hW 0 ciX12 rfl (hrec gN (upd gR fj (7 : Int32)) ka kb bu ca hca) vX12_327 [0, 1, 2, 3, 4, 5, 6, 7, 8, 9, 10, 11] [] rfl rfl rfl rfl rfl rfl hl.1 rfl (Nat.le_of_ble_eq_true rfl) ⟨by show _ ≤ dd + 1; omega, by show _ ≤ 40 * (dd + 1); omega⟩ ⟨Nat.le_of_ble_eq_true rfl, Nat.le_of_ble_eq_true rfl⟩ dX12_lowest_279 (fun r17 u9 H locs hq hW => ?_)
      obtain ⟨rfl, rfl⟩ := hq
      have hW : WD g A s _ _ [(h0, .inr (12, ((vs.set 44 (.int ((R (fj + 1) bu ca gN (upd gR fj (7 : Int32)) ka kb).2.2.2.1))).set 45 (.int ((R (fj + 1) bu ca gN (upd gR fj (7 : Int32)) ka kb).2.2.2.2))))), (b6, .inl (g.2.1 1, 11, .inl rP)), (b7, .inl (g.2.1 1, 11, .inl rL)), (b8, .inl (g.2.1 1, 11, .inl rD)), (b12, .inl (g.2.1 1, 132, .inl rA)), (b13, .inl (g.2.1 1, 132, .inl rB)), (b14, .inl (g.2.1 1, 132, .inl rF)), (b15, .inl (g.2.1 1, 132, .inl rT)), (b16, .inl (g.2.1 1, 132, .inl rW)), (b17, .inl (g.2.1 3, 132, .inl rO)), (b34, .inl (g.2.1 0, 425984, .inl ((R (fj + 1) bu ca gN (upd gR fj (7 : Int32)) ka kb).2.1))), (b35, .inl (g.2.1 1, 7, .inl ((R (fj + 1) bu ca gN (upd gR fj (7 : Int32)) ka kb).2.2.1)))] := hW
      have hF : F_X12_lowest an rA rB rF rT rW rO gN gR ka kb i lc pe h kw fj bu ca R = (zb ((R (fj + 1) bu ca gN (upd gR fj (7 : Int32)) ka kb).1), ((R (fj + 1) bu ca gN (upd gR fj (7 : Int32)) ka kb).2.1), ((R (fj + 1) bu ca gN (upd gR fj (7 : Int32)) ka kb).2.2.1), (R (fj + 1) bu ca gN (upd gR fj (7 : Int32)) ka kb).2.2.2.1, (R (fj + 1) bu ca gN (upd gR fj (7 : Int32)) ka kb).2.2.2.2) := show F_X12_lowest an rA rB rF rT rW rO gN gR ka kb i lc pe h kw fj bu ca R = (zb ((R (fj + 1) bu ca gN (upd gR fj (7 : Int32)) ka kb).1), ((R (fj + 1) bu ca gN (upd gR fj (7 : Int32)) ka kb).2.1), ((R (fj + 1) bu ca gN (upd gR fj (7 : Int32)) ka kb).2.2.1), (R (fj + 1) bu ca gN (upd gR fj (7 : Int32)) ka kb).2.2.2.1, (R (fj + 1) bu ca gN (upd gR fj (7 : Int32)) ka kb).2.2.2.2) from by rw [F_X12_lowest, if_pos c3, if_neg c11]
      exact e_z (u := [(h0, .inr (12, ((vs.set 44 (.int ((R (fj + 1) bu ca gN (upd gR fj (7 : Int32)) ka kb).2.2.2.1))).set 45 (.int ((R (fj + 1) bu ca gN (upd gR fj (7 : Int32)) ka kb).2.2.2.2))))), (b6, .inl (g.2.1 1, 11, .inl rP)), (b7, .inl (g.2.1 1, 11, .inl rL)), (b8, .inl (g.2.1 1, 11, .inl rD)), (b12, .inl (g.2.1 1, 132, .inl rA)), (b13, .inl (g.2.1 1, 132, .inl rB)), (b14, .inl (g.2.1 1, 132, .inl rF)), (b15, .inl (g.2.1 1, 132, .inl rT)), (b16, .inl (g.2.1 1, 132, .inl rW)), (b17, .inl (g.2.1 3, 132, .inl rO)), (b34, .inl (g.2.1 0, 425984, .inl ((R (fj + 1) bu ca gN (upd gR fj (7 : Int32)) ka kb).2.1))), (b35, .inl (g.2.1 1, 7, .inl ((R (fj + 1) bu ca gN (upd gR fj (7 : Int32)) ka kb).2.2.1)))]) X hQ hr (hW) (zb_z ..) [0, 1, 2, 3, 4, 5, 6, 7, 8, 9, 10, 11] rfl rfl (⟨(congrArg Prod.fst hF).symm, by rw [hF]⟩) ⟨Nat.le_of_ble_eq_true rfl, Nat.le_of_ble_eq_true rfl⟩ dX12_lowest_282
    · refine lv_iload (pc := 121) hx hb dX12_lowest_121 (lv_at hl 5 rfl) ?_
      refine lv_iload (pc := 123) hx hb dX12_lowest_123 (lv_at hl 4 rfl) ?_
      refine lv_ishr (pc := 125) hx hb dX12_lowest_125 ?_
      refine lv_iconst (v := 1) (pc := 126) hx hb dX12_lowest_126 (by decide) ?_
      refine lv_iand (pc := 127) hx hb dX12_lowest_127 ?_
      refine lv_if_ne (tgt := 135) (pc := 128) hx hb dX12_lowest_128 rfl (fun c19 => ?_) (fun c19 => ?_)
      · refine lv_iconst (v := 0) (pc := 135) hx hb dX12_lowest_135 (by decide) ?_
        refine lv_istore (lv' := [(8, .int 0), (0, .ref h0), (1, .int (nI h)), (2, .int kw), (3, .int oz), (4, .int (nI fj)), (5, .int bu), (6, .int ca), (7, .int lf)]) (pc := 136) hx hb dX12_lowest_136 hl (by decide) rfl (fun ls hl => ?_)
        refine lv_iconst (v := 0) (pc := 138) hx hb dX12_lowest_138 (by decide) ?_
        refine lv_istore (lv' := [(9, .int 0), (8, .int 0), (0, .ref h0), (1, .int (nI h)), (2, .int kw), (3, .int oz), (4, .int (nI fj)), (5, .int bu), (6, .int ca), (7, .int lf)]) (pc := 139) hx hb dX12_lowest_139 hl (by decide) rfl (fun ls hl => ?_)
        refine lv_iload (pc := 141) hx hb dX12_lowest_141 (lv_at hl 0 rfl) ?_
        refine lv_aload_n (pc := 143) hx hb dX12_lowest_143 rfl (lv_at hl 2 rfl) ?_
        refine r_get X hW 0 ciX12 6 rfl (by decide) m_1237 rfl (sv_ne (k := 45) (by decide) (sv_ne (k := 44) (by decide) h6_)) dX12_lowest_144 ?_
        refine lv_aload_n (pc := 147) hx hb dX12_lowest_147 rfl (lv_at hl 2 rfl) ?_
        refine r_get X hW 0 ciX12 37 rfl (by decide) m_1268 rfl (sv_ne (k := 45) (by decide) (sv_ne (k := 44) (by decide) h37_)) dX12_lowest_148 ?_
        refine r_iald X hW 1 rfl (vp_in_nI (by omega) (by decide)) dX12_lowest_151 ?_
        refine lv_topi (fun v21 ev21 => ?_)
        obtain rfl : v21 = rP i := ev21.trans (by rw [nI_clamp (by omega)])
        rw [hP]
        refine lv_icmp_ge (tgt := 256) (pc := 152) hx hb dX12_lowest_152 rfl (fun c22 => absurd c22 (fun q => absurd ((nI_leI (a := pe) (b := 0) (by omega) (by omega)).mp q) (by omega))) (fun c22 => ?_)
        refine lv_iload (pc := 155) hx hb dX12_lowest_155 (lv_at hl 1 rfl) ?_
        refine lv_if_eq (tgt := 256) (pc := 157) hx hb dX12_lowest_157 rfl (fun c23 => ?_) (fun c23 => absurd (by decide) c23)
        refine lv_aload_n (pc := 256) hx hb dX12_lowest_256 rfl (lv_at hl 2 rfl) ?_
        refine r_get X hW 0 ciX12 35 rfl (by decide) m_1266 rfl (sv_ne (k := 45) (by decide) (sv_ne (k := 44) (by decide) h35_)) dX12_lowest_257 ?_
        refine lv_iload (pc := 260) hx hb dX12_lowest_260 (lv_at hl 6 rfl) ?_
        refine lv_bipush (v := 7) (pc := 262) hx hb dX12_lowest_262 (by decide) ?_
        refine r_iast (ws' := [(h0, .inr (12, ((vs.set 44 (.int ka)).set 45 (.int kb)))), (b6, .inl (g.2.1 1, 11, .inl rP)), (b7, .inl (g.2.1 1, 11, .inl rL)), (b8, .inl (g.2.1 1, 11, .inl rD)), (b12, .inl (g.2.1 1, 132, .inl rA)), (b13, .inl (g.2.1 1, 132, .inl rB)), (b14, .inl (g.2.1 1, 132, .inl rF)), (b15, .inl (g.2.1 1, 132, .inl rT)), (b16, .inl (g.2.1 1, 132, .inl rW)), (b17, .inl (g.2.1 3, 132, .inl rO)), (b34, .inl (g.2.1 0, 425984, .inl gN)), (b35, .inl (g.2.1 1, 7, .inl (upd gR fj (7 : Int32))))]) X hW 11 rfl (vp_in_nI (by omega) (by decide)) (f' := (upd gR fj (7 : Int32))) (by rw [nI_clamp (by omega)]) rfl dX12_lowest_264 (fun H locs hW => ?_)
        refine lv_aload_n (pc := 265) hx hb dX12_lowest_265 rfl (lv_at hl 2 rfl) ?_
        refine lv_iload_n (pc := 266) hx hb dX12_lowest_266 rfl (lv_at hl 3 rfl) ?_
        refine lv_iload_n (pc := 267) hx hb dX12_lowest_267 rfl (lv_at hl 4 rfl) ?_
        refine lv_iload_n (pc := 268) hx hb dX12_lowest_268 rfl (lv_at hl 5 rfl) ?_
        refine lv_iload (pc := 269) hx hb dX12_lowest_269 (lv_at hl 6 rfl) ?_
        refine lv_iconst (v := 1) (pc := 271) hx hb dX12_lowest_271 (by decide) ?_
        refine lv_iadd (pc := 272) hx hb dX12_lowest_272 ?_
        refine lv_topi (fun v24 ev24 => ?_)
        obtain rfl : v24 = nI (fj + 1) := ev24.trans (nI_add fj 1)
        refine lv_iload (pc := 273) hx hb dX12_lowest_273 (lv_at hl 7 rfl) ?_
        refine lv_iload (pc := 275) hx hb dX12_lowest_275 (lv_at hl 8 rfl) ?_
        refine lv_iload (pc := 277) hx hb dX12_lowest_277 (lv_at hl 9 rfl) ?_
        refine c_Vi (pc := 279) (As := [.int (nI h), .int kw, .int oz, .int (nI (fj + 1)), .int bu, .int ca, .int lf]) (rest := []) (wr := []) X hW 0 ciX12 rfl (hrec gN (upd gR fj (7 : Int32)) ka kb bu ca hca) vX12_327 [0, 1, 2, 3, 4, 5, 6, 7, 8, 9, 10, 11] [] rfl rfl rfl rfl rfl rfl hl.1 rfl (Nat.le_of_ble_eq_true rfl) ⟨by show _ ≤ dd + 1; omega, by show _ ≤ 40 * (dd + 1); omega⟩ ⟨Nat.le_of_ble_eq_true rfl, Nat.le_of_ble_eq_true rfl⟩ dX12_lowest_279 (fun r25 u9 H locs hq hW => ?_)
        obtain ⟨rfl, rfl⟩ := hq
        have hW : WD g A s _ _ [(h0, .inr (12, ((vs.set 44 (.int ((R (fj + 1) bu ca gN (upd gR fj (7 : Int32)) ka kb).2.2.2.1))).set 45 (.int ((R (fj + 1) bu ca gN (upd gR fj (7 : Int32)) ka kb).2.2.2.2))))), (b6, .inl (g.2.1 1, 11, .inl rP)), (b7, .inl (g.2.1 1, 11, .inl rL)), (b8, .inl (g.2.1 1, 11, .inl rD)), (b12, .inl (g.2.1 1, 132, .inl rA)), (b13, .inl (g.2.1 1, 132, .inl rB)), (b14, .inl (g.2.1 1, 132, .inl rF)), (b15, .inl (g.2.1 1, 132, .inl rT)), (b16, .inl (g.2.1 1, 132, .inl rW)), (b17, .inl (g.2.1 3, 132, .inl rO)), (b34, .inl (g.2.1 0, 425984, .inl ((R (fj + 1) bu ca gN (upd gR fj (7 : Int32)) ka kb).2.1))), (b35, .inl (g.2.1 1, 7, .inl ((R (fj + 1) bu ca gN (upd gR fj (7 : Int32)) ka kb).2.2.1)))] := hW
        have hF : F_X12_lowest an rA rB rF rT rW rO gN gR ka kb i lc pe h kw fj bu ca R = (zb ((R (fj + 1) bu ca gN (upd gR fj (7 : Int32)) ka kb).1), ((R (fj + 1) bu ca gN (upd gR fj (7 : Int32)) ka kb).2.1), ((R (fj + 1) bu ca gN (upd gR fj (7 : Int32)) ka kb).2.2.1), (R (fj + 1) bu ca gN (upd gR fj (7 : Int32)) ka kb).2.2.2.1, (R (fj + 1) bu ca gN (upd gR fj (7 : Int32)) ka kb).2.2.2.2) := show F_X12_lowest an rA rB rF rT rW rO gN gR ka kb i lc pe h kw fj bu ca R = (zb ((R (fj + 1) bu ca gN (upd gR fj (7 : Int32)) ka kb).1), ((R (fj + 1) bu ca gN (upd gR fj (7 : Int32)) ka kb).2.1), ((R (fj + 1) bu ca gN (upd gR fj (7 : Int32)) ka kb).2.2.1), (R (fj + 1) bu ca gN (upd gR fj (7 : Int32)) ka kb).2.2.2.1, (R (fj + 1) bu ca gN (upd gR fj (7 : Int32)) ka kb).2.2.2.2) from by rw [F_X12_lowest, if_pos c3, if_pos c11, if_neg c19]
        exact e_z (u := [(h0, .inr (12, ((vs.set 44 (.int ((R (fj + 1) bu ca gN (upd gR fj (7 : Int32)) ka kb).2.2.2.1))).set 45 (.int ((R (fj + 1) bu ca gN (upd gR fj (7 : Int32)) ka kb).2.2.2.2))))), (b6, .inl (g.2.1 1, 11, .inl rP)), (b7, .inl (g.2.1 1, 11, .inl rL)), (b8, .inl (g.2.1 1, 11, .inl rD)), (b12, .inl (g.2.1 1, 132, .inl rA)), (b13, .inl (g.2.1 1, 132, .inl rB)), (b14, .inl (g.2.1 1, 132, .inl rF)), (b15, .inl (g.2.1 1, 132, .inl rT)), (b16, .inl (g.2.1 1, 132, .inl rW)), (b17, .inl (g.2.1 3, 132, .inl rO)), (b34, .inl (g.2.1 0, 425984, .inl ((R (fj + 1) bu ca gN (upd gR fj (7 : Int32)) ka kb).2.1))), (b35, .inl (g.2.1 1, 7, .inl ((R (fj + 1) bu ca gN (upd gR fj (7 : Int32)) ka kb).2.2.1)))]) X hQ hr (hW) (zb_z ..) [0, 1, 2, 3, 4, 5, 6, 7, 8, 9, 10, 11] rfl rfl (⟨(congrArg Prod.fst hF).symm, by rw [hF]⟩) ⟨Nat.le_of_ble_eq_true rfl, Nat.le_of_ble_eq_true rfl⟩ dX12_lowest_282
      · refine lv_iconst (v := 1) (pc := 131) hx hb dX12_lowest_131 (by decide) ?_
        refine lv_goto (tgt := 136) (pc := 132) hx hb dX12_lowest_132 rfl ?_
        refine lv_istore (lv' := [(8, .int 1), (0, .ref h0), (1, .int (nI h)), (2, .int kw), (3, .int oz), (4, .int (nI fj)), (5, .int bu), (6, .int ca), (7, .int lf)]) (pc := 136) hx hb dX12_lowest_136 hl (by decide) rfl (fun ls hl => ?_)
        refine lv_iconst (v := 0) (pc := 138) hx hb dX12_lowest_138 (by decide) ?_
        refine lv_istore (lv' := [(9, .int 0), (8, .int 1), (0, .ref h0), (1, .int (nI h)), (2, .int kw), (3, .int oz), (4, .int (nI fj)), (5, .int bu), (6, .int ca), (7, .int lf)]) (pc := 139) hx hb dX12_lowest_139 hl (by decide) rfl (fun ls hl => ?_)
        have loop1 : ∀ (fu1 : Nat) (j1 : Nat) (fb34_1 : Nat → Int32) (fb35_1 : Nat → Int32) (y44_1 : Int32) (y45_1 : Int32), (pe < fu1 + j1) → (j1 ≤ pe) → (L1_X12_lowest an rA rB rF rT rW rO i lc pe h kw fj bu ca R fu1 j1 fb34_1 fb35_1 y44_1 y45_1 = F_X12_lowest an rA rB rF rT rW rO gN gR ka kb i lc pe h kw fj bu ca R) → ∀ (H : Heap) (locs : List Loc) (ls : Array Slot), WD g A s H locs [(h0, .inr (12, ((vs.set 44 (.int y44_1)).set 45 (.int y45_1)))), (b6, .inl (g.2.1 1, 11, .inl rP)), (b7, .inl (g.2.1 1, 11, .inl rL)), (b8, .inl (g.2.1 1, 11, .inl rD)), (b12, .inl (g.2.1 1, 132, .inl rA)), (b13, .inl (g.2.1 1, 132, .inl rB)), (b14, .inl (g.2.1 1, 132, .inl rF)), (b15, .inl (g.2.1 1, 132, .inl rT)), (b16, .inl (g.2.1 1, 132, .inl rW)), (b17, .inl (g.2.1 3, 132, .inl rO)), (b34, .inl (g.2.1 0, 425984, .inl fb34_1)), (b35, .inl (g.2.1 1, 7, .inl fb35_1))] → lv_has ls 10 [(9, .int (nI j1)), (8, .int 1), (0, .ref h0), (1, .int (nI h)), (2, .int kw), (3, .int oz), (4, .int (nI fj)), (5, .int bu), (6, .int ca), (7, .int lf)] → W p l e (RM (dd + 1) 0 0) s m args below meth c H locs 0 0 Q (F0 m 141 ls []) := by
          intro fu1
          induction fu1 with
          | zero =>
            intro j1 fb34_1 fb35_1 y44_1 y45_1 hm1 hj1 hst1
            exact absurd hm1 (by omega)
          | succ fu1 ih1 =>
            intro j1 fb34_1 fb35_1 y44_1 y45_1 hm1 hj1 hst1 H locs ls hW hl
            refine lv_iload (pc := 141) hx hb dX12_lowest_141 (lv_at hl 0 rfl) ?_
            refine lv_aload_n (pc := 143) hx hb dX12_lowest_143 rfl (lv_at hl 2 rfl) ?_
            refine r_get X hW 0 ciX12 6 rfl (by decide) m_1237 rfl (sv_ne (k := 45) (by decide) (sv_ne (k := 44) (by decide) h6_)) dX12_lowest_144 ?_
            refine lv_aload_n (pc := 147) hx hb dX12_lowest_147 rfl (lv_at hl 2 rfl) ?_
            refine r_get X hW 0 ciX12 37 rfl (by decide) m_1268 rfl (sv_ne (k := 45) (by decide) (sv_ne (k := 44) (by decide) h37_)) dX12_lowest_148 ?_
            refine r_iald X hW 1 rfl (vp_in_nI (by omega) (by decide)) dX12_lowest_151 ?_
            refine lv_topi (fun v27 ev27 => ?_)
            obtain rfl : v27 = rP i := ev27.trans (by rw [nI_clamp (by omega)])
            rw [hP]
            refine lv_icmp_ge (tgt := 256) (pc := 152) hx hb dX12_lowest_152 rfl (fun c28 => ?_) (fun c28 => ?_)
            · have h29 : pe ≤ j1 := (nI_leI (a := pe) (b := j1) (by omega) (by omega)).mp c28
              refine lv_aload_n (pc := 256) hx hb dX12_lowest_256 rfl (lv_at hl 2 rfl) ?_
              refine r_get X hW 0 ciX12 35 rfl (by decide) m_1266 rfl (sv_ne (k := 45) (by decide) (sv_ne (k := 44) (by decide) h35_)) dX12_lowest_257 ?_
              refine lv_iload (pc := 260) hx hb dX12_lowest_260 (lv_at hl 6 rfl) ?_
              refine lv_bipush (v := 7) (pc := 262) hx hb dX12_lowest_262 (by decide) ?_
              refine r_iast (ws' := [(h0, .inr (12, ((vs.set 44 (.int y44_1)).set 45 (.int y45_1)))), (b6, .inl (g.2.1 1, 11, .inl rP)), (b7, .inl (g.2.1 1, 11, .inl rL)), (b8, .inl (g.2.1 1, 11, .inl rD)), (b12, .inl (g.2.1 1, 132, .inl rA)), (b13, .inl (g.2.1 1, 132, .inl rB)), (b14, .inl (g.2.1 1, 132, .inl rF)), (b15, .inl (g.2.1 1, 132, .inl rT)), (b16, .inl (g.2.1 1, 132, .inl rW)), (b17, .inl (g.2.1 3, 132, .inl rO)), (b34, .inl (g.2.1 0, 425984, .inl fb34_1)), (b35, .inl (g.2.1 1, 7, .inl (upd fb35_1 fj (7 : Int32))))]) X hW 11 rfl (vp_in_nI (by omega) (by decide)) (f' := (upd fb35_1 fj (7 : Int32))) (by rw [nI_clamp (by omega)]) rfl dX12_lowest_264 (fun H locs hW => ?_)
              refine lv_aload_n (pc := 265) hx hb dX12_lowest_265 rfl (lv_at hl 2 rfl) ?_
              refine lv_iload_n (pc := 266) hx hb dX12_lowest_266 rfl (lv_at hl 3 rfl) ?_
              refine lv_iload_n (pc := 267) hx hb dX12_lowest_267 rfl (lv_at hl 4 rfl) ?_
              refine lv_iload_n (pc := 268) hx hb dX12_lowest_268 rfl (lv_at hl 5 rfl) ?_
              refine lv_iload (pc := 269) hx hb dX12_lowest_269 (lv_at hl 6 rfl) ?_
              refine lv_iconst (v := 1) (pc := 271) hx hb dX12_lowest_271 (by decide) ?_
              refine lv_iadd (pc := 272) hx hb dX12_lowest_272 ?_
              refine lv_topi (fun v30 ev30 => ?_)
              obtain rfl : v30 = nI (fj + 1) := ev30.trans (nI_add fj 1)
              refine lv_iload (pc := 273) hx hb dX12_lowest_273 (lv_at hl 7 rfl) ?_
              refine lv_iload (pc := 275) hx hb dX12_lowest_275 (lv_at hl 8 rfl) ?_
              refine lv_iload (pc := 277) hx hb dX12_lowest_277 (lv_at hl 9 rfl) ?_
              refine c_Vi (pc := 279) (As := [.int (nI h), .int kw, .int oz, .int (nI (fj + 1)), .int bu, .int ca, .int lf]) (rest := []) (wr := []) X hW 0 ciX12 rfl (hrec fb34_1 (upd fb35_1 fj (7 : Int32)) y44_1 y45_1 bu ca hca) vX12_327 [0, 1, 2, 3, 4, 5, 6, 7, 8, 9, 10, 11] [] rfl rfl rfl rfl rfl rfl hl.1 rfl (Nat.le_of_ble_eq_true rfl) ⟨by show _ ≤ dd + 1; omega, by show _ ≤ 40 * (dd + 1); omega⟩ ⟨Nat.le_of_ble_eq_true rfl, Nat.le_of_ble_eq_true rfl⟩ dX12_lowest_279 (fun r31 u9 H locs hq hW => ?_)
              obtain ⟨rfl, rfl⟩ := hq
              have hW : WD g A s _ _ [(h0, .inr (12, ((vs.set 44 (.int ((R (fj + 1) bu ca fb34_1 (upd fb35_1 fj (7 : Int32)) y44_1 y45_1).2.2.2.1))).set 45 (.int ((R (fj + 1) bu ca fb34_1 (upd fb35_1 fj (7 : Int32)) y44_1 y45_1).2.2.2.2))))), (b6, .inl (g.2.1 1, 11, .inl rP)), (b7, .inl (g.2.1 1, 11, .inl rL)), (b8, .inl (g.2.1 1, 11, .inl rD)), (b12, .inl (g.2.1 1, 132, .inl rA)), (b13, .inl (g.2.1 1, 132, .inl rB)), (b14, .inl (g.2.1 1, 132, .inl rF)), (b15, .inl (g.2.1 1, 132, .inl rT)), (b16, .inl (g.2.1 1, 132, .inl rW)), (b17, .inl (g.2.1 3, 132, .inl rO)), (b34, .inl (g.2.1 0, 425984, .inl ((R (fj + 1) bu ca fb34_1 (upd fb35_1 fj (7 : Int32)) y44_1 y45_1).2.1))), (b35, .inl (g.2.1 1, 7, .inl ((R (fj + 1) bu ca fb34_1 (upd fb35_1 fj (7 : Int32)) y44_1 y45_1).2.2.1)))] := hW
              have hF : F_X12_lowest an rA rB rF rT rW rO gN gR ka kb i lc pe h kw fj bu ca R = (zb ((R (fj + 1) bu ca fb34_1 (upd fb35_1 fj (7 : Int32)) y44_1 y45_1).1), ((R (fj + 1) bu ca fb34_1 (upd fb35_1 fj (7 : Int32)) y44_1 y45_1).2.1), ((R (fj + 1) bu ca fb34_1 (upd fb35_1 fj (7 : Int32)) y44_1 y45_1).2.2.1), (R (fj + 1) bu ca fb34_1 (upd fb35_1 fj (7 : Int32)) y44_1 y45_1).2.2.2.1, (R (fj + 1) bu ca fb34_1 (upd fb35_1 fj (7 : Int32)) y44_1 y45_1).2.2.2.2) := hst1.symm.trans (show L1_X12_lowest an rA rB rF rT rW rO i lc pe h kw fj bu ca R (fu1 + 1) j1 fb34_1 fb35_1 y44_1 y45_1 = (zb ((R (fj + 1) bu ca fb34_1 (upd fb35_1 fj (7 : Int32)) y44_1 y45_1).1), ((R (fj + 1) bu ca fb34_1 (upd fb35_1 fj (7 : Int32)) y44_1 y45_1).2.1), ((R (fj + 1) bu ca fb34_1 (upd fb35_1 fj (7 : Int32)) y44_1 y45_1).2.2.1), (R (fj + 1) bu ca fb34_1 (upd fb35_1 fj (7 : Int32)) y44_1 y45_1).2.2.2.1, (R (fj + 1) bu ca fb34_1 (upd fb35_1 fj (7 : Int32)) y44_1 y45_1).2.2.2.2) from by rw [L1_X12_lowest, if_pos c28])
              exact e_z (u := [(h0, .inr (12, ((vs.set 44 (.int ((R (fj + 1) bu ca fb34_1 (upd fb35_1 fj (7 : Int32)) y44_1 y45_1).2.2.2.1))).set 45 (.int ((R (fj + 1) bu ca fb34_1 (upd fb35_1 fj (7 : Int32)) y44_1 y45_1).2.2.2.2))))), (b6, .inl (g.2.1 1, 11, .inl rP)), (b7, .inl (g.2.1 1, 11, .inl rL)), (b8, .inl (g.2.1 1, 11, .inl rD)), (b12, .inl (g.2.1 1, 132, .inl rA)), (b13, .inl (g.2.1 1, 132, .inl rB)), (b14, .inl (g.2.1 1, 132, .inl rF)), (b15, .inl (g.2.1 1, 132, .inl rT)), (b16, .inl (g.2.1 1, 132, .inl rW)), (b17, .inl (g.2.1 3, 132, .inl rO)), (b34, .inl (g.2.1 0, 425984, .inl ((R (fj + 1) bu ca fb34_1 (upd fb35_1 fj (7 : Int32)) y44_1 y45_1).2.1))), (b35, .inl (g.2.1 1, 7, .inl ((R (fj + 1) bu ca fb34_1 (upd fb35_1 fj (7 : Int32)) y44_1 y45_1).2.2.1)))]) X hQ hr (hW) (zb_z ..) [0, 1, 2, 3, 4, 5, 6, 7, 8, 9, 10, 11] rfl rfl (⟨(congrArg Prod.fst hF).symm, by rw [hF]⟩) ⟨Nat.le_of_ble_eq_true rfl, Nat.le_of_ble_eq_true rfl⟩ dX12_lowest_282
            · have h32 : ¬ (pe ≤ j1) := fun q => c28 ((nI_leI (a := pe) (b := j1) (by omega) (by omega)).mpr q)
              refine lv_iload (pc := 155) hx hb dX12_lowest_155 (lv_at hl 1 rfl) ?_
              refine lv_if_eq (tgt := 256) (pc := 157) hx hb dX12_lowest_157 rfl (fun c33 => absurd c33 (by decide)) (fun c33 => ?_)
              refine lv_iload (pc := 160) hx hb dX12_lowest_160 (lv_at hl 0 rfl) ?_
              refine lv_iload (pc := 162) hx hb dX12_lowest_162 (lv_at hl 6 rfl) ?_
              refine lv_icmp_eq (tgt := 250) (pc := 164) hx hb dX12_lowest_164 rfl (fun c34 => ?_) (fun c34 => ?_)
              · have h35 : j1 = fj := (nI_eq (a := j1) (b := fj) (by omega) (by omega)).mp c34
                refine lv_iinc (v := nI (j1 + 1)) (lv' := [(9, .int (nI (j1 + 1))), (8, .int 1), (0, .ref h0), (1, .int (nI h)), (2, .int kw), (3, .int oz), (4, .int (nI fj)), (5, .int bu), (6, .int ca), (7, .int lf)]) (pc := 250) hx hb dX12_lowest_250 hl (k := 0) rfl (nI_add j1 1) (by decide) rfl (fun ls hl => ?_)
                refine lv_goto (tgt := 141) (pc := 253) hx hb dX12_lowest_253 rfl ?_
                exact ih1 (j1 + 1) fb34_1 fb35_1 y44_1 y45_1 (by omega) (by omega) ((show L1_X12_lowest an rA rB rF rT rW rO i lc pe h kw fj bu ca R (fu1 + 1) j1 fb34_1 fb35_1 y44_1 y45_1 = L1_X12_lowest an rA rB rF rT rW rO i lc pe h kw fj bu ca R fu1 (j1 + 1) fb34_1 fb35_1 y44_1 y45_1 from by rw [L1_X12_lowest, if_neg c28, if_pos c34]).symm.trans hst1) _ _ _ hW (lv_sub hl [0, 1, 2, 3, 4, 5, 6, 7, 8, 9] rfl)
              · have h36 : ¬ (j1 = fj) := fun q => c34 ((nI_eq (a := j1) (b := fj) (by omega) (by omega)).mpr q)
                refine lv_iload (pc := 167) hx hb dX12_lowest_167 (lv_at hl 7 rfl) ?_
                refine lv_aload_n (pc := 169) hx hb dX12_lowest_169 rfl (lv_at hl 2 rfl) ?_
                refine r_get X hW 0 ciX12 39 rfl (by decide) m_1270 rfl (sv_ne (k := 45) (by decide) (sv_ne (k := 44) (by decide) h39_)) dX12_lowest_170 ?_
                refine lv_ior (pc := 173) hx hb dX12_lowest_173 ?_
                refine lv_iload_n (pc := 174) hx hb dX12_lowest_174 rfl (lv_at hl 4 rfl) ?_
                refine lv_ior (pc := 175) hx hb dX12_lowest_175 ?_
                refine lv_iload (pc := 176) hx hb dX12_lowest_176 (lv_at hl 0 rfl) ?_
                refine lv_ishr (pc := 178) hx hb dX12_lowest_178 ?_
                refine lv_iconst (v := 1) (pc := 179) hx hb dX12_lowest_179 (by decide) ?_
                refine lv_iand (pc := 180) hx hb dX12_lowest_180 ?_
                refine lv_iconst (v := 1) (pc := 181) hx hb dX12_lowest_181 (by decide) ?_
                refine lv_icmp_eq (tgt := 250) (pc := 182) hx hb dX12_lowest_182 rfl (fun c37 => ?_) (fun c37 => ?_)
                · refine lv_iinc (v := nI (j1 + 1)) (lv' := [(9, .int (nI (j1 + 1))), (8, .int 1), (0, .ref h0), (1, .int (nI h)), (2, .int kw), (3, .int oz), (4, .int (nI fj)), (5, .int bu), (6, .int ca), (7, .int lf)]) (pc := 250) hx hb dX12_lowest_250 hl (k := 0) rfl (nI_add j1 1) (by decide) rfl (fun ls hl => ?_)
                  refine lv_goto (tgt := 141) (pc := 253) hx hb dX12_lowest_253 rfl ?_
                  exact ih1 (j1 + 1) fb34_1 fb35_1 y44_1 y45_1 (by omega) (by omega) ((show L1_X12_lowest an rA rB rF rT rW rO i lc pe h kw fj bu ca R (fu1 + 1) j1 fb34_1 fb35_1 y44_1 y45_1 = L1_X12_lowest an rA rB rF rT rW rO i lc pe h kw fj bu ca R fu1 (j1 + 1) fb34_1 fb35_1 y44_1 y45_1 from by rw [L1_X12_lowest, if_neg c28, if_neg c34, if_pos c37]).symm.trans hst1) _ _ _ hW (lv_sub hl [0, 1, 2, 3, 4, 5, 6, 7, 8, 9] rfl)
                · refine lv_aload_n (pc := 185) hx hb dX12_lowest_185 rfl (lv_at hl 2 rfl) ?_
                  refine lv_aload_n (pc := 186) hx hb dX12_lowest_186 rfl (lv_at hl 2 rfl) ?_
                  refine r_get X hW 0 ciX12 37 rfl (by decide) m_1268 rfl (sv_ne (k := 45) (by decide) (sv_ne (k := 44) (by decide) h37_)) dX12_lowest_187 ?_
                  refine lv_iload (pc := 190) hx hb dX12_lowest_190 (lv_at hl 6 rfl) ?_
                  refine lv_iload (pc := 192) hx hb dX12_lowest_192 (lv_at hl 0 rfl) ?_
                  refine lv_iload_n (pc := 194) hx hb dX12_lowest_194 rfl (lv_at hl 3 rfl) ?_
                  refine c_Vi (pc := 195) (As := [.int (nI i), .int (nI fj), .int (nI j1), .int (nI h)]) (rest := []) (wr := [(b6, .inl (g.2.1 1, 11, .inl rP)), (b8, .inl (g.2.1 1, 11, .inl rD)), (b34, .inl (g.2.1 0, 425984, .inl fb34_1)), (b35, .inl (g.2.1 1, 7, .inl fb35_1))]) X hW 0 ciX12 rfl (K_X12_mayCall l g h0 ((vs.set 44 (.int y44_1)).set 45 (.int y45_1)) b7 rL b12 rA b13 rB b14 rF b15 rT b16 rW b17 rO lc i fj j1 (nI h) (sv_len (sv_len hlen)) (sv_ne (k := 45) (by decide) (sv_ne (k := 44) (by decide) h7_)) (sv_ne (k := 45) (by decide) (sv_ne (k := 44) (by decide) h12_)) (sv_ne (k := 45) (by decide) (sv_ne (k := 44) (by decide) h13_)) (sv_ne (k := 45) (by decide) (sv_ne (k := 44) (by decide) h14_)) (sv_ne (k := 45) (by decide) (sv_ne (k := 44) (by decide) h15_)) (sv_ne (k := 45) (by decide) (sv_ne (k := 44) (by decide) h16_)) (sv_ne (k := 45) (by decide) (sv_ne (k := 44) (by decide) h17_)) (sv_ne (k := 45) (by decide) (sv_ne (k := 44) (by decide) h19_)) (sv_ne (k := 45) (by decide) (sv_ne (k := 44) (by decide) h20_)) (by omega) (by omega) (by omega) hlc hL) vX12_240 [0, 2, 4, 5, 6, 7, 8, 9] [1, 3, 10, 11] rfl rfl rfl rfl rfl rfl hl.1 rfl (Nat.le_of_ble_eq_true rfl) ⟨by show _ ≤ dd + 1; omega, by show _ ≤ 40 * (dd + 1); omega⟩ ⟨Nat.le_of_ble_eq_true rfl, Nat.le_of_ble_eq_true rfl⟩ dX12_lowest_195 (fun r40 u9 H locs hq hW => ?_)
                  obtain ⟨rfl, rfl⟩ := hq
                  have hW : WD g A s _ _ [(b6, .inl (g.2.1 1, 11, .inl rP)), (b8, .inl (g.2.1 1, 11, .inl rD)), (b34, .inl (g.2.1 0, 425984, .inl fb34_1)), (b35, .inl (g.2.1 1, 7, .inl fb35_1)), (h0, .inr (12, ((vs.set 44 (.int y44_1)).set 45 (.int y45_1)))), (b7, .inl (g.2.1 1, 11, .inl rL)), (b12, .inl (g.2.1 1, 132, .inl rA)), (b13, .inl (g.2.1 1, 132, .inl rB)), (b14, .inl (g.2.1 1, 132, .inl rF)), (b15, .inl (g.2.1 1, 132, .inl rT)), (b16, .inl (g.2.1 1, 132, .inl rW)), (b17, .inl (g.2.1 3, 132, .inl rO))] := hW
                  refine lv_if_ne (tgt := 204) (pc := 198) hx hb dX12_lowest_198 rfl (fun c41 => ?_) (fun c41 => ?_)
                  · refine lv_aload_n (pc := 204) hx hb dX12_lowest_204 rfl (lv_at hl 2 rfl) ?_
                    refine r_get X hW 4 ciX12 35 rfl (by decide) m_1266 rfl (sv_ne (k := 45) (by decide) (sv_ne (k := 44) (by decide) h35_)) dX12_lowest_205 ?_
                    refine lv_iload (pc := 208) hx hb dX12_lowest_208 (lv_at hl 6 rfl) ?_
                    refine lv_iload (pc := 210) hx hb dX12_lowest_210 (lv_at hl 0 rfl) ?_
                    refine r_iast (ws' := [(b6, .inl (g.2.1 1, 11, .inl rP)), (b8, .inl (g.2.1 1, 11, .inl rD)), (b34, .inl (g.2.1 0, 425984, .inl fb34_1)), (b35, .inl (g.2.1 1, 7, .inl (upd fb35_1 fj (nI j1)))), (h0, .inr (12, ((vs.set 44 (.int y44_1)).set 45 (.int y45_1)))), (b7, .inl (g.2.1 1, 11, .inl rL)), (b12, .inl (g.2.1 1, 132, .inl rA)), (b13, .inl (g.2.1 1, 132, .inl rB)), (b14, .inl (g.2.1 1, 132, .inl rF)), (b15, .inl (g.2.1 1, 132, .inl rT)), (b16, .inl (g.2.1 1, 132, .inl rW)), (b17, .inl (g.2.1 3, 132, .inl rO))]) X hW 3 rfl (vp_in_nI (by omega) (by decide)) (f' := (upd fb35_1 fj (nI j1))) (by rw [nI_clamp (by omega)]) rfl dX12_lowest_212 (fun H locs hW => ?_)
                    refine lv_aload_n (pc := 213) hx hb dX12_lowest_213 rfl (lv_at hl 2 rfl) ?_
                    refine lv_iload_n (pc := 214) hx hb dX12_lowest_214 rfl (lv_at hl 3 rfl) ?_
                    refine lv_iload_n (pc := 215) hx hb dX12_lowest_215 rfl (lv_at hl 4 rfl) ?_
                    refine lv_iload_n (pc := 216) hx hb dX12_lowest_216 rfl (lv_at hl 5 rfl) ?_
                    refine lv_iload (pc := 217) hx hb dX12_lowest_217 (lv_at hl 6 rfl) ?_
                    refine lv_iconst (v := 1) (pc := 219) hx hb dX12_lowest_219 (by decide) ?_
                    refine lv_iadd (pc := 220) hx hb dX12_lowest_220 ?_
                    refine lv_topi (fun v43 ev43 => ?_)
                    obtain rfl : v43 = nI (fj + 1) := ev43.trans (nI_add fj 1)
                    refine lv_iload (pc := 221) hx hb dX12_lowest_221 (lv_at hl 7 rfl) ?_
                    refine lv_iconst (v := 1) (pc := 223) hx hb dX12_lowest_223 (by decide) ?_
                    refine lv_iload (pc := 224) hx hb dX12_lowest_224 (lv_at hl 6 rfl) ?_
                    refine lv_ishl (pc := 226) hx hb dX12_lowest_226 ?_
                    refine lv_ior (pc := 227) hx hb dX12_lowest_227 ?_
                    refine lv_iconst (v := 1) (pc := 228) hx hb dX12_lowest_228 (by decide) ?_
                    refine lv_iload (pc := 229) hx hb dX12_lowest_229 (lv_at hl 0 rfl) ?_
                    refine lv_ishl (pc := 231) hx hb dX12_lowest_231 ?_
                    refine lv_ior (pc := 232) hx hb dX12_lowest_232 ?_
                    refine lv_iload (pc := 233) hx hb dX12_lowest_233 (lv_at hl 8 rfl) ?_
                    refine lv_iconst (v := 1) (pc := 235) hx hb dX12_lowest_235 (by decide) ?_
                    refine lv_iload (pc := 236) hx hb dX12_lowest_236 (lv_at hl 0 rfl) ?_
                    refine lv_ishl (pc := 238) hx hb dX12_lowest_238 ?_
                    refine lv_ior (pc := 239) hx hb dX12_lowest_239 ?_
                    refine lv_iload (pc := 240) hx hb dX12_lowest_240 (lv_at hl 9 rfl) ?_
                    refine c_Vi (pc := 242) (As := [.int (nI h), .int kw, .int oz, .int (nI (fj + 1)), .int ((bu ||| ((1 : Int32) <<< ((nI fj) &&& 31))) ||| ((1 : Int32) <<< ((nI j1) &&& 31))), .int (ca ||| ((1 : Int32) <<< ((nI j1) &&& 31))), .int lf]) (rest := []) (wr := []) X hW 4 ciX12 rfl (hrec fb34_1 (upd fb35_1 fj (nI j1)) y44_1 y45_1 ((bu ||| ((1 : Int32) <<< ((nI fj) &&& 31))) ||| ((1 : Int32) <<< ((nI j1) &&& 31))) (ca ||| ((1 : Int32) <<< ((nI j1) &&& 31))) (s7_or hca (s7_b1 (by omega)))) vX12_327 [4, 0, 5, 1, 6, 7, 8, 9, 10, 11, 2, 3] [] rfl rfl rfl rfl rfl rfl hl.1 rfl (Nat.le_of_ble_eq_true rfl) ⟨by show _ ≤ dd + 1; omega, by show _ ≤ 40 * (dd + 1); omega⟩ ⟨Nat.le_of_ble_eq_true rfl, Nat.le_of_ble_eq_true rfl⟩ dX12_lowest_242 (fun r44 u9 H locs hq hW => ?_)
                    obtain ⟨rfl, rfl⟩ := hq
                    have hW : WD g A s _ _ [(h0, .inr (12, ((vs.set 44 (.int ((R (fj + 1) ((bu ||| ((1 : Int32) <<< ((nI fj) &&& 31))) ||| ((1 : Int32) <<< ((nI j1) &&& 31))) (ca ||| ((1 : Int32) <<< ((nI j1) &&& 31))) fb34_1 (upd fb35_1 fj (nI j1)) y44_1 y45_1).2.2.2.1))).set 45 (.int ((R (fj + 1) ((bu ||| ((1 : Int32) <<< ((nI fj) &&& 31))) ||| ((1 : Int32) <<< ((nI j1) &&& 31))) (ca ||| ((1 : Int32) <<< ((nI j1) &&& 31))) fb34_1 (upd fb35_1 fj (nI j1)) y44_1 y45_1).2.2.2.2))))), (b6, .inl (g.2.1 1, 11, .inl rP)), (b7, .inl (g.2.1 1, 11, .inl rL)), (b8, .inl (g.2.1 1, 11, .inl rD)), (b12, .inl (g.2.1 1, 132, .inl rA)), (b13, .inl (g.2.1 1, 132, .inl rB)), (b14, .inl (g.2.1 1, 132, .inl rF)), (b15, .inl (g.2.1 1, 132, .inl rT)), (b16, .inl (g.2.1 1, 132, .inl rW)), (b17, .inl (g.2.1 3, 132, .inl rO)), (b34, .inl (g.2.1 0, 425984, .inl ((R (fj + 1) ((bu ||| ((1 : Int32) <<< ((nI fj) &&& 31))) ||| ((1 : Int32) <<< ((nI j1) &&& 31))) (ca ||| ((1 : Int32) <<< ((nI j1) &&& 31))) fb34_1 (upd fb35_1 fj (nI j1)) y44_1 y45_1).2.1))), (b35, .inl (g.2.1 1, 7, .inl ((R (fj + 1) ((bu ||| ((1 : Int32) <<< ((nI fj) &&& 31))) ||| ((1 : Int32) <<< ((nI j1) &&& 31))) (ca ||| ((1 : Int32) <<< ((nI j1) &&& 31))) fb34_1 (upd fb35_1 fj (nI j1)) y44_1 y45_1).2.2.1)))] := hW
                    refine lv_if_eq (tgt := 250) (pc := 245) hx hb dX12_lowest_245 rfl (fun c45 => ?_) (fun c45 => ?_)
                    · refine lv_iinc (v := nI (j1 + 1)) (lv' := [(9, .int (nI (j1 + 1))), (8, .int 1), (0, .ref h0), (1, .int (nI h)), (2, .int kw), (3, .int oz), (4, .int (nI fj)), (5, .int bu), (6, .int ca), (7, .int lf)]) (pc := 250) hx hb dX12_lowest_250 hl (k := 0) rfl (nI_add j1 1) (by decide) rfl (fun ls hl => ?_)
                      refine lv_goto (tgt := 141) (pc := 253) hx hb dX12_lowest_253 rfl ?_
                      exact ih1 (j1 + 1) ((R (fj + 1) ((bu ||| ((1 : Int32) <<< ((nI fj) &&& 31))) ||| ((1 : Int32) <<< ((nI j1) &&& 31))) (ca ||| ((1 : Int32) <<< ((nI j1) &&& 31))) fb34_1 (upd fb35_1 fj (nI j1)) y44_1 y45_1).2.1) ((R (fj + 1) ((bu ||| ((1 : Int32) <<< ((nI fj) &&& 31))) ||| ((1 : Int32) <<< ((nI j1) &&& 31))) (ca ||| ((1 : Int32) <<< ((nI j1) &&& 31))) fb34_1 (upd fb35_1 fj (nI j1)) y44_1 y45_1).2.2.1) ((R (fj + 1) ((bu ||| ((1 : Int32) <<< ((nI fj) &&& 31))) ||| ((1 : Int32) <<< ((nI j1) &&& 31))) (ca ||| ((1 : Int32) <<< ((nI j1) &&& 31))) fb34_1 (upd fb35_1 fj (nI j1)) y44_1 y45_1).2.2.2.1) ((R (fj + 1) ((bu ||| ((1 : Int32) <<< ((nI fj) &&& 31))) ||| ((1 : Int32) <<< ((nI j1) &&& 31))) (ca ||| ((1 : Int32) <<< ((nI j1) &&& 31))) fb34_1 (upd fb35_1 fj (nI j1)) y44_1 y45_1).2.2.2.2) (by omega) (by omega) ((show L1_X12_lowest an rA rB rF rT rW rO i lc pe h kw fj bu ca R (fu1 + 1) j1 fb34_1 fb35_1 y44_1 y45_1 = L1_X12_lowest an rA rB rF rT rW rO i lc pe h kw fj bu ca R fu1 (j1 + 1) ((R (fj + 1) ((bu ||| ((1 : Int32) <<< ((nI fj) &&& 31))) ||| ((1 : Int32) <<< ((nI j1) &&& 31))) (ca ||| ((1 : Int32) <<< ((nI j1) &&& 31))) fb34_1 (upd fb35_1 fj (nI j1)) y44_1 y45_1).2.1) ((R (fj + 1) ((bu ||| ((1 : Int32) <<< ((nI fj) &&& 31))) ||| ((1 : Int32) <<< ((nI j1) &&& 31))) (ca ||| ((1 : Int32) <<< ((nI j1) &&& 31))) fb34_1 (upd fb35_1 fj (nI j1)) y44_1 y45_1).2.2.1) ((R (fj + 1) ((bu ||| ((1 : Int32) <<< ((nI fj) &&& 31))) ||| ((1 : Int32) <<< ((nI j1) &&& 31))) (ca ||| ((1 : Int32) <<< ((nI j1) &&& 31))) fb34_1 (upd fb35_1 fj (nI j1)) y44_1 y45_1).2.2.2.1) ((R (fj + 1) ((bu ||| ((1 : Int32) <<< ((nI fj) &&& 31))) ||| ((1 : Int32) <<< ((nI j1) &&& 31))) (ca ||| ((1 : Int32) <<< ((nI j1) &&& 31))) fb34_1 (upd fb35_1 fj (nI j1)) y44_1 y45_1).2.2.2.2) from by rw [L1_X12_lowest, if_neg c28, if_neg c34, if_neg c37, if_neg c41, if_pos c45]).symm.trans hst1) _ _ _ hW (lv_sub hl [0, 1, 2, 3, 4, 5, 6, 7, 8, 9] rfl)
                    · refine lv_iconst (v := 1) (pc := 248) hx hb dX12_lowest_248 (by decide) ?_
                      have hF : F_X12_lowest an rA rB rF rT rW rO gN gR ka kb i lc pe h kw fj bu ca R = ((1 : Int32), ((R (fj + 1) ((bu ||| ((1 : Int32) <<< ((nI fj) &&& 31))) ||| ((1 : Int32) <<< ((nI j1) &&& 31))) (ca ||| ((1 : Int32) <<< ((nI j1) &&& 31))) fb34_1 (upd fb35_1 fj (nI j1)) y44_1 y45_1).2.1), ((R (fj + 1) ((bu ||| ((1 : Int32) <<< ((nI fj) &&& 31))) ||| ((1 : Int32) <<< ((nI j1) &&& 31))) (ca ||| ((1 : Int32) <<< ((nI j1) &&& 31))) fb34_1 (upd fb35_1 fj (nI j1)) y44_1 y45_1).2.2.1), (R (fj + 1) ((bu ||| ((1 : Int32) <<< ((nI fj) &&& 31))) ||| ((1 : Int32) <<< ((nI j1) &&& 31))) (ca ||| ((1 : Int32) <<< ((nI j1) &&& 31))) fb34_1 (upd fb35_1 fj (nI j1)) y44_1 y45_1).2.2.2.1, (R (fj + 1) ((bu ||| ((1 : Int32) <<< ((nI fj) &&& 31))) ||| ((1 : Int32) <<< ((nI j1) &&& 31))) (ca ||| ((1 : Int32) <<< ((nI j1) &&& 31))) fb34_1 (upd fb35_1 fj (nI j1)) y44_1 y45_1).2.2.2.2) := hst1.symm.trans (show L1_X12_lowest an rA rB rF rT rW rO i lc pe h kw fj bu ca R (fu1 + 1) j1 fb34_1 fb35_1 y44_1 y45_1 = ((1 : Int32), ((R (fj + 1) ((bu ||| ((1 : Int32) <<< ((nI fj) &&& 31))) ||| ((1 : Int32) <<< ((nI j1) &&& 31))) (ca ||| ((1 : Int32) <<< ((nI j1) &&& 31))) fb34_1 (upd fb35_1 fj (nI j1)) y44_1 y45_1).2.1), ((R (fj + 1) ((bu ||| ((1 : Int32) <<< ((nI fj) &&& 31))) ||| ((1 : Int32) <<< ((nI j1) &&& 31))) (ca ||| ((1 : Int32) <<< ((nI j1) &&& 31))) fb34_1 (upd fb35_1 fj (nI j1)) y44_1 y45_1).2.2.1), (R (fj + 1) ((bu ||| ((1 : Int32) <<< ((nI fj) &&& 31))) ||| ((1 : Int32) <<< ((nI j1) &&& 31))) (ca ||| ((1 : Int32) <<< ((nI j1) &&& 31))) fb34_1 (upd fb35_1 fj (nI j1)) y44_1 y45_1).2.2.2.1, (R (fj + 1) ((bu ||| ((1 : Int32) <<< ((nI fj) &&& 31))) ||| ((1 : Int32) <<< ((nI j1) &&& 31))) (ca ||| ((1 : Int32) <<< ((nI j1) &&& 31))) fb34_1 (upd fb35_1 fj (nI j1)) y44_1 y45_1).2.2.2.2) from by rw [L1_X12_lowest, if_neg c28, if_neg c34, if_neg c37, if_neg c41, if_neg c45])
                      exact e_z (u := [(h0, .inr (12, ((vs.set 44 (.int ((R (fj + 1) ((bu ||| ((1 : Int32) <<< ((nI fj) &&& 31))) ||| ((1 : Int32) <<< ((nI j1) &&& 31))) (ca ||| ((1 : Int32) <<< ((nI j1) &&& 31))) fb34_1 (upd fb35_1 fj (nI j1)) y44_1 y45_1).2.2.2.1))).set 45 (.int ((R (fj + 1) ((bu ||| ((1 : Int32) <<< ((nI fj) &&& 31))) ||| ((1 : Int32) <<< ((nI j1) &&& 31))) (ca ||| ((1 : Int32) <<< ((nI j1) &&& 31))) fb34_1 (upd fb35_1 fj (nI j1)) y44_1 y45_1).2.2.2.2))))), (b6, .inl (g.2.1 1, 11, .inl rP)), (b7, .inl (g.2.1 1, 11, .inl rL)), (b8, .inl (g.2.1 1, 11, .inl rD)), (b12, .inl (g.2.1 1, 132, .inl rA)), (b13, .inl (g.2.1 1, 132, .inl rB)), (b14, .inl (g.2.1 1, 132, .inl rF)), (b15, .inl (g.2.1 1, 132, .inl rT)), (b16, .inl (g.2.1 1, 132, .inl rW)), (b17, .inl (g.2.1 3, 132, .inl rO)), (b34, .inl (g.2.1 0, 425984, .inl ((R (fj + 1) ((bu ||| ((1 : Int32) <<< ((nI fj) &&& 31))) ||| ((1 : Int32) <<< ((nI j1) &&& 31))) (ca ||| ((1 : Int32) <<< ((nI j1) &&& 31))) fb34_1 (upd fb35_1 fj (nI j1)) y44_1 y45_1).2.1))), (b35, .inl (g.2.1 1, 7, .inl ((R (fj + 1) ((bu ||| ((1 : Int32) <<< ((nI fj) &&& 31))) ||| ((1 : Int32) <<< ((nI j1) &&& 31))) (ca ||| ((1 : Int32) <<< ((nI j1) &&& 31))) fb34_1 (upd fb35_1 fj (nI j1)) y44_1 y45_1).2.2.1)))]) X hQ hr (hW) rfl [0, 1, 2, 3, 4, 5, 6, 7, 8, 9, 10, 11] rfl rfl (⟨(congrArg Prod.fst hF).symm, by rw [hF]⟩) ⟨Nat.le_of_ble_eq_true rfl, Nat.le_of_ble_eq_true rfl⟩ dX12_lowest_249
                  · refine lv_goto (tgt := 250) (pc := 201) hx hb dX12_lowest_201 rfl ?_
                    refine lv_iinc (v := nI (j1 + 1)) (lv' := [(9, .int (nI (j1 + 1))), (8, .int 1), (0, .ref h0), (1, .int (nI h)), (2, .int kw), (3, .int oz), (4, .int (nI fj)), (5, .int bu), (6, .int ca), (7, .int lf)]) (pc := 250) hx hb dX12_lowest_250 hl (k := 0) rfl (nI_add j1 1) (by decide) rfl (fun ls hl => ?_)
                    refine lv_goto (tgt := 141) (pc := 253) hx hb dX12_lowest_253 rfl ?_
                    have hW : WD g A s _ _ [(h0, .inr (12, ((vs.set 44 (.int y44_1)).set 45 (.int y45_1)))), (b6, .inl (g.2.1 1, 11, .inl rP)), (b7, .inl (g.2.1 1, 11, .inl rL)), (b8, .inl (g.2.1 1, 11, .inl rD)), (b12, .inl (g.2.1 1, 132, .inl rA)), (b13, .inl (g.2.1 1, 132, .inl rB)), (b14, .inl (g.2.1 1, 132, .inl rF)), (b15, .inl (g.2.1 1, 132, .inl rT)), (b16, .inl (g.2.1 1, 132, .inl rW)), (b17, .inl (g.2.1 3, 132, .inl rO)), (b34, .inl (g.2.1 0, 425984, .inl fb34_1)), (b35, .inl (g.2.1 1, 7, .inl fb35_1))] := hW.pick [4, 0, 5, 1, 6, 7, 8, 9, 10, 11, 2, 3] rfl rfl
                    exact ih1 (j1 + 1) fb34_1 fb35_1 y44_1 y45_1 (by omega) (by omega) ((show L1_X12_lowest an rA rB rF rT rW rO i lc pe h kw fj bu ca R (fu1 + 1) j1 fb34_1 fb35_1 y44_1 y45_1 = L1_X12_lowest an rA rB rF rT rW rO i lc pe h kw fj bu ca R fu1 (j1 + 1) fb34_1 fb35_1 y44_1 y45_1 from by rw [L1_X12_lowest, if_neg c28, if_neg c34, if_neg c37, if_pos c41]).symm.trans hst1) _ _ _ hW (lv_sub hl [0, 1, 2, 3, 4, 5, 6, 7, 8, 9] rfl)
        exact loop1 (pe + 1) 0 gN gR ka kb (by omega) (by omega) (show F_X12_lowest an rA rB rF rT rW rO gN gR ka kb i lc pe h kw fj bu ca R = L1_X12_lowest an rA rB rF rT rW rO i lc pe h kw fj bu ca R (pe + 1) 0 gN gR ka kb from by rw [F_X12_lowest, if_pos c3, if_pos c11, if_pos c19]).symm _ _ _ hW (lv_sub hl [0, 1, 2, 3, 4, 5, 6, 7, 8, 9] rfl)

def F_X12_lowestL (am : Int32) (an : Int32) (rD : Nat → Int32) (rA : Nat → Int32) (rB : Nat → Int32) (rF : Nat → Int32) (rT : Nat → Int32) (rW : Nat → Int32) (rO : Nat → Int32) (gN : Nat → Int32) (gR : Nat → Int32) (i : Nat) (lc : Nat) (pe : Nat) (h : Nat) (kw : Int32) (oz : Int32) (ca : Int32) (lf : Int32) : Int32 × (Nat → Int32) × (Nat → Int32) × Int32 × Int32 := if lf < (NDf am an rD i pe (fun h a b => F_X12_mayCall rA rB rF rT rW rO lc i a b (nI h)) (25 - (h + 1)) (kw ||| ((ca &&& (kw ^^^ (-1 : Int32))) &&& (((rD i) ^^^ (-1 : Int32)) ||| oz))) (((oz ||| (ca &&& (kw ^^^ (-1 : Int32)))) &&& (rD i)) &&& ((kw ||| ((ca &&& (kw ^^^ (-1 : Int32))) &&& (((rD i) ^^^ (-1 : Int32)) ||| oz))) ^^^ (-1 : Int32))) gN).1 then (((0 : Int32), ((NDf am an rD i pe (fun h a b => F_X12_mayCall rA rB rF rT rW rO lc i a b (nI h)) (25 - (h + 1)) (kw ||| ((ca &&& (kw ^^^ (-1 : Int32))) &&& (((rD i) ^^^ (-1 : Int32)) ||| oz))) (((oz ||| (ca &&& (kw ^^^ (-1 : Int32)))) &&& (rD i)) &&& ((kw ||| ((ca &&& (kw ^^^ (-1 : Int32))) &&& (((rD i) ^^^ (-1 : Int32)) ||| oz))) ^^^ (-1 : Int32))) gN).2), gR, kw ||| ((ca &&& (kw ^^^ (-1 : Int32))) &&& (((rD i) ^^^ (-1 : Int32)) ||| oz)), ((oz ||| (ca &&& (kw ^^^ (-1 : Int32)))) &&& (rD i)) &&& ((kw ||| ((ca &&& (kw ^^^ (-1 : Int32))) &&& (((rD i) ^^^ (-1 : Int32)) ||| oz))) ^^^ (-1 : Int32)))) else (((1 : Int32), ((NDf am an rD i pe (fun h a b => F_X12_mayCall rA rB rF rT rW rO lc i a b (nI h)) (25 - (h + 1)) (kw ||| ((ca &&& (kw ^^^ (-1 : Int32))) &&& (((rD i) ^^^ (-1 : Int32)) ||| oz))) (((oz ||| (ca &&& (kw ^^^ (-1 : Int32)))) &&& (rD i)) &&& ((kw ||| ((ca &&& (kw ^^^ (-1 : Int32))) &&& (((rD i) ^^^ (-1 : Int32)) ||| oz))) ^^^ (-1 : Int32))) gN).2), gR, kw ||| ((ca &&& (kw ^^^ (-1 : Int32))) &&& (((rD i) ^^^ (-1 : Int32)) ||| oz)), ((oz ||| (ca &&& (kw ^^^ (-1 : Int32)))) &&& (rD i)) &&& ((kw ||| ((ca &&& (kw ^^^ (-1 : Int32))) &&& (((rD i) ^^^ (-1 : Int32)) ||| oz))) ^^^ (-1 : Int32))))
set_option maxHeartbeats 4000000 in
theorem K_nh2 (l : Launch) (g : GG) (h0 : Nat) (vs : List Value) (am : Int32) (an : Int32) (b6 : Nat) (rP : Nat → Int32) (b7 : Nat) (rL : Nat → Int32) (b8 : Nat) (rD : Nat → Int32) (b12 : Nat) (rA : Nat → Int32) (b13 : Nat) (rB : Nat → Int32) (b14 : Nat) (rF : Nat → Int32) (b15 : Nat) (rT : Nat → Int32) (b16 : Nat) (rW : Nat → Int32) (b17 : Nat) (rO : Nat → Int32) (b34 : Nat) (i lc pe : Nat) (mA mB : Int32) (MCh : Nat → Nat → Nat → Int32) (hlen : vs.length = 64) (h38_ : vs[38]? = some (.int am)) (h39_ : vs[39]? = some (.int an)) (h6_ : vs[6]? = some (.ref b6)) (h7_ : vs[7]? = some (.ref b7)) (h8_ : vs[8]? = some (.ref b8)) (h12_ : vs[12]? = some (.ref b12)) (h13_ : vs[13]? = some (.ref b13)) (h14_ : vs[14]? = some (.ref b14)) (h15_ : vs[15]? = some (.ref b15)) (h16_ : vs[16]? = some (.ref b16)) (h17_ : vs[17]? = some (.ref b17)) (h34_ : vs[34]? = some (.ref b34)) (h37_ : vs[37]? = some (.int (nI i))) (h19_ : vs[19]? = some (.int mA)) (h20_ : vs[20]? = some (.int mB)) (hi : i < 11) (hlc : lc ≤ 12) (hL : rL i = nI lc) (hpe : pe ≤ 7) (hP : rP i = nI pe) (hMCh : ∀ h : Nat, 1 ≤ h → h ≤ 24 → ∀ a b : Nat, a < 7 → b < 7 → MetI l g yX12_mayCall cX12_mayCall 6 (some .boolean) 1 0 0 [.ref h0, .int (nI i), .int (nI a), .int (nI b), .int (nI h)] [(h0, .inr (12, vs)), (b7, .inl (g.2.1 1, 11, .inl rL)), (b12, .inl (g.2.1 1, 132, .inl rA)), (b13, .inl (g.2.1 1, 132, .inl rB)), (b14, .inl (g.2.1 1, 132, .inl rF)), (b15, .inl (g.2.1 1, 132, .inl rT)), (b16, .inl (g.2.1 1, 132, .inl rW)), (b17, .inl (g.2.1 3, 132, .inl rO))] (fun r u => r = MCh h a b ∧ u = [(h0, .inr (12, vs)), (b7, .inl (g.2.1 1, 11, .inl rL)), (b12, .inl (g.2.1 1, 132, .inl rA)), (b13, .inl (g.2.1 1, 132, .inl rB)), (b14, .inl (g.2.1 1, 132, .inl rF)), (b15, .inl (g.2.1 1, 132, .inl rT)), (b16, .inl (g.2.1 1, 132, .inl rW)), (b17, .inl (g.2.1 3, 132, .inl rO))])) (h : Nat) (h1 : 2 ≤ h) (h2 : h ≤ 25) (gN : Nat → Int32) (kw oz : Int32) (hkw : s7 kw) (hoz : s7 oz) : MetI l g yX12_needed cX12_needed 7 (some .int) 230 0 0 [.ref h0, .int (nI h), .int kw, .int oz] [(h0, .inr (12, vs)), (b6, .inl (g.2.1 1, 11, .inl rP)), (b7, .inl (g.2.1 1, 11, .inl rL)), (b8, .inl (g.2.1 1, 11, .inl rD)), (b12, .inl (g.2.1 1, 132, .inl rA)), (b13, .inl (g.2.1 1, 132, .inl rB)), (b14, .inl (g.2.1 1, 132, .inl rF)), (b15, .inl (g.2.1 1, 132, .inl rT)), (b16, .inl (g.2.1 1, 132, .inl rW)), (b17, .inl (g.2.1 3, 132, .inl rO)), (b34, .inl (g.2.1 0, 425984, .inl gN))] (fun r u => r = (NDf am an rD i pe MCh (25 - h) kw oz gN).1 ∧ u = [(h0, .inr (12, vs)), (b6, .inl (g.2.1 1, 11, .inl rP)), (b7, .inl (g.2.1 1, 11, .inl rL)), (b8, .inl (g.2.1 1, 11, .inl rD)), (b12, .inl (g.2.1 1, 132, .inl rA)), (b13, .inl (g.2.1 1, 132, .inl rB)), (b14, .inl (g.2.1 1, 132, .inl rF)), (b15, .inl (g.2.1 1, 132, .inl rT)), (b16, .inl (g.2.1 1, 132, .inl rW)), (b17, .inl (g.2.1 3, 132, .inl rO)), (b34, .inl (g.2.1 0, 425984, .inl ((NDf am an rD i pe MCh (25 - h) kw oz gN).2)))]) := by
  have e := K_nd l g h0 vs am an b6 rP b7 rL b8 rD b12 rA b13 rB b14 rF b15 rT b16 rW b17 rO b34 i lc pe mA mB MCh hlen h38_ h39_ h6_ h7_ h8_ h12_ h13_ h14_ h15_ h16_ h17_ h34_ h37_ h19_ h20_ hi hlc hL hpe hP hMCh (25 - h) (by omega) gN kw oz hkw hoz
  rw [show 25 - (25 - h) = h by omega] at e
  exact e.up (by omega)
set_option maxRecDepth 100000 in
theorem K_X12_lowestL (l : Launch) (g : GG) (h0 : Nat) (vs : List Value) (am : Int32) (an : Int32) (b6 : Nat) (rP : Nat → Int32) (b7 : Nat) (rL : Nat → Int32) (b8 : Nat) (rD : Nat → Int32) (b12 : Nat) (rA : Nat → Int32) (b13 : Nat) (rB : Nat → Int32) (b14 : Nat) (rF : Nat → Int32) (b15 : Nat) (rT : Nat → Int32) (b16 : Nat) (rW : Nat → Int32) (b17 : Nat) (rO : Nat → Int32) (b34 : Nat) (gN : Nat → Int32) (b35 : Nat) (gR : Nat → Int32) (ka : Int32) (kb : Int32) (i : Nat) (lc : Nat) (pe : Nat) (h : Nat) (kw : Int32) (oz : Int32) (bu : Int32) (ca : Int32) (lf : Int32) (hlen : vs.length = 64) (h38_ : vs[38]? = some (.int am)) (h39_ : vs[39]? = some (.int an)) (h6_ : vs[6]? = some (.ref b6)) (h7_ : vs[7]? = some (.ref b7)) (h8_ : vs[8]? = some (.ref b8)) (h12_ : vs[12]? = some (.ref b12)) (h13_ : vs[13]? = some (.ref b13)) (h14_ : vs[14]? = some (.ref b14)) (h15_ : vs[15]? = some (.ref b15)) (h16_ : vs[16]? = some (.ref b16)) (h17_ : vs[17]? = some (.ref b17)) (h34_ : vs[34]? = some (.ref b34)) (h35_ : vs[35]? = some (.ref b35)) (hi : i < 11) (hlc : lc ≤ 12) (hL : rL i = nI lc) (hpe : pe ≤ 7) (hP : rP i = nI pe) (h37_ : vs[37]? = some (.int (nI i))) (h19_ : vs[19]? = some (.int (-1))) (h20_ : vs[20]? = some (.int (-1))) (hh : 1 ≤ h ∧ h ≤ 24) (hkw : s7 kw) (hoz : s7 oz) (hca : s7 ca) : MetI l g yX12_lowest cX12_lowest 10 (some .boolean) 231 0 0 [.ref h0, .int (nI h), .int kw, .int oz, .int (nI pe), .int bu, .int ca, .int lf] [(h0, .inr (12, ((vs.set 44 (.int ka)).set 45 (.int kb)))), (b6, .inl (g.2.1 1, 11, .inl rP)), (b7, .inl (g.2.1 1, 11, .inl rL)), (b8, .inl (g.2.1 1, 11, .inl rD)), (b12, .inl (g.2.1 1, 132, .inl rA)), (b13, .inl (g.2.1 1, 132, .inl rB)), (b14, .inl (g.2.1 1, 132, .inl rF)), (b15, .inl (g.2.1 1, 132, .inl rT)), (b16, .inl (g.2.1 1, 132, .inl rW)), (b17, .inl (g.2.1 3, 132, .inl rO)), (b34, .inl (g.2.1 0, 425984, .inl gN)), (b35, .inl (g.2.1 1, 7, .inl gR))] (fun r u => r = (F_X12_lowestL am an rD rA rB rF rT rW rO gN gR i lc pe h kw oz ca lf).1 ∧ u = [(h0, .inr (12, ((vs.set 44 (.int ((F_X12_lowestL am an rD rA rB rF rT rW rO gN gR i lc pe h kw oz ca lf).2.2.2.1))).set 45 (.int ((F_X12_lowestL am an rD rA rB rF rT rW rO gN gR i lc pe h kw oz ca lf).2.2.2.2))))), (b6, .inl (g.2.1 1, 11, .inl rP)), (b7, .inl (g.2.1 1, 11, .inl rL)), (b8, .inl (g.2.1 1, 11, .inl rD)), (b12, .inl (g.2.1 1, 132, .inl rA)), (b13, .inl (g.2.1 1, 132, .inl rB)), (b14, .inl (g.2.1 1, 132, .inl rF)), (b15, .inl (g.2.1 1, 132, .inl rT)), (b16, .inl (g.2.1 1, 132, .inl rW)), (b17, .inl (g.2.1 3, 132, .inl rO)), (b34, .inl (g.2.1 0, 425984, .inl ((F_X12_lowestL am an rD rA rB rF rT rW rO gN gR i lc pe h kw oz ca lf).2.1))), (b35, .inl (g.2.1 1, 7, .inl ((F_X12_lowestL am an rD rA rB rF rT rW rO gN gR i lc pe h kw oz ca lf).2.2.1)))]) := by
  refine MetI.of (own := RX12) rfl (by decide) (Nat.le_of_ble_eq_true rfl) ?_
  intro p e s m below meth c A ls args Q hQ X hr hin hW hl
  have hx := X.1
  have hb := X.2.1
  have hl : lv_has ls 10 [(0, .ref h0), (1, .int (nI h)), (2, .int kw), (3, .int oz), (4, .int (nI pe)), (5, .int bu), (6, .int ca), (7, .int lf)] := hl
  refine lv_iload (pc := 0) hx hb dX12_lowest_0 (lv_at hl 4 rfl) ?_
  refine lv_aload_n (pc := 2) hx hb dX12_lowest_2 rfl (lv_at hl 0 rfl) ?_
  refine r_get X hW 0 ciX12 6 rfl (by decide) m_1237 rfl (sv_ne (k := 45) (by decide) (sv_ne (k := 44) (by decide) h6_)) dX12_lowest_3 ?_
  refine lv_aload_n (pc := 6) hx hb dX12_lowest_6 rfl (lv_at hl 0 rfl) ?_
  refine r_get X hW 0 ciX12 37 rfl (by decide) m_1268 rfl (sv_ne (k := 45) (by decide) (sv_ne (k := 44) (by decide) h37_)) dX12_lowest_7 ?_
  refine r_iald X hW 1 rfl (vp_in_nI (by omega) (by decide)) dX12_lowest_10 ?_
  refine lv_topi (fun v1 ev1 => ?_)
  obtain rfl : v1 = rP i := ev1.trans (by rw [nI_clamp (by omega)])
  rw [hP]
  refine lv_icmp_ne (tgt := 99) (pc := 11) hx hb dX12_lowest_11 rfl (fun c2 => absurd rfl c2) (fun c2 => ?_)
  refine lv_iload (pc := 14) hx hb dX12_lowest_14 (lv_at hl 6 rfl) ?_
  refine lv_iload_n (pc := 16) hx hb dX12_lowest_16 rfl (lv_at hl 2 rfl) ?_
  refine lv_iconst (v := (-1)) (pc := 17) hx hb dX12_lowest_17 (by decide) ?_
  refine lv_ixor (pc := 18) hx hb dX12_lowest_18 ?_
  refine lv_iand (pc := 19) hx hb dX12_lowest_19 ?_
  refine lv_istore (lv' := [(8, .int (ca &&& (kw ^^^ (-1 : Int32)))), (0, .ref h0), (1, .int (nI h)), (2, .int kw), (3, .int oz), (4, .int (nI pe)), (5, .int bu), (6, .int ca), (7, .int lf)]) (pc := 20) hx hb dX12_lowest_20 hl (by decide) rfl (fun ls hl => ?_)
  refine lv_iload (pc := 22) hx hb dX12_lowest_22 (lv_at hl 0 rfl) ?_
  refine lv_aload_n (pc := 24) hx hb dX12_lowest_24 rfl (lv_at hl 1 rfl) ?_
  refine r_get X hW 0 ciX12 8 rfl (by decide) m_1239 rfl (sv_ne (k := 45) (by decide) (sv_ne (k := 44) (by decide) h8_)) dX12_lowest_25 ?_
  refine lv_aload_n (pc := 28) hx hb dX12_lowest_28 rfl (lv_at hl 1 rfl) ?_
  refine r_get X hW 0 ciX12 37 rfl (by decide) m_1268 rfl (sv_ne (k := 45) (by decide) (sv_ne (k := 44) (by decide) h37_)) dX12_lowest_29 ?_
  refine r_iald X hW 3 rfl (vp_in_nI (by omega) (by decide)) dX12_lowest_32 ?_
  refine lv_topi (fun v3 ev3 => ?_)
  obtain rfl : v3 = rD i := ev3.trans (by rw [nI_clamp (by omega)])
  refine lv_iconst (v := (-1)) (pc := 33) hx hb dX12_lowest_33 (by decide) ?_
  refine lv_ixor (pc := 34) hx hb dX12_lowest_34 ?_
  refine lv_iload_n (pc := 35) hx hb dX12_lowest_35 rfl (lv_at hl 4 rfl) ?_
  refine lv_ior (pc := 36) hx hb dX12_lowest_36 ?_
  refine lv_iand (pc := 37) hx hb dX12_lowest_37 ?_
  refine lv_istore (lv' := [(9, .int ((ca &&& (kw ^^^ (-1 : Int32))) &&& (((rD i) ^^^ (-1 : Int32)) ||| oz))), (8, .int (ca &&& (kw ^^^ (-1 : Int32)))), (0, .ref h0), (1, .int (nI h)), (2, .int kw), (3, .int oz), (4, .int (nI pe)), (5, .int bu), (6, .int ca), (7, .int lf)]) (pc := 38) hx hb dX12_lowest_38 hl (by decide) rfl (fun ls hl => ?_)
  refine lv_aload_n (pc := 40) hx hb dX12_lowest_40 rfl (lv_at hl 2 rfl) ?_
  refine lv_iload_n (pc := 41) hx hb dX12_lowest_41 rfl (lv_at hl 4 rfl) ?_
  refine lv_iload (pc := 42) hx hb dX12_lowest_42 (lv_at hl 0 rfl) ?_
  refine lv_ior (pc := 44) hx hb dX12_lowest_44 ?_
  refine r_put (ws' := [(h0, .inr (12, (((vs.set 44 (.int ka)).set 45 (.int kb)).set 44 (.int (kw ||| ((ca &&& (kw ^^^ (-1 : Int32))) &&& (((rD i) ^^^ (-1 : Int32)) ||| oz))))))), (b6, .inl (g.2.1 1, 11, .inl rP)), (b7, .inl (g.2.1 1, 11, .inl rL)), (b8, .inl (g.2.1 1, 11, .inl rD)), (b12, .inl (g.2.1 1, 132, .inl rA)), (b13, .inl (g.2.1 1, 132, .inl rB)), (b14, .inl (g.2.1 1, 132, .inl rF)), (b15, .inl (g.2.1 1, 132, .inl rT)), (b16, .inl (g.2.1 1, 132, .inl rW)), (b17, .inl (g.2.1 3, 132, .inl rO)), (b34, .inl (g.2.1 0, 425984, .inl gN)), (b35, .inl (g.2.1 1, 7, .inl gR))]) X hW 0 ciX12 44 rfl (by decide) m_1271 rfl rfl rfl rfl (sv_lt (by decide) (sv_len (sv_len hlen))) rfl dX12_lowest_45 (fun H locs hW => ?_)
  rw [pin_i (i := 44) (j := 45) (by decide)] at hW
  refine lv_aload_n (pc := 48) hx hb dX12_lowest_48 rfl (lv_at hl 2 rfl) ?_
  refine lv_iload_n (pc := 49) hx hb dX12_lowest_49 rfl (lv_at hl 5 rfl) ?_
  refine lv_iload (pc := 50) hx hb dX12_lowest_50 (lv_at hl 1 rfl) ?_
  refine lv_ior (pc := 52) hx hb dX12_lowest_52 ?_
  refine lv_aload_n (pc := 53) hx hb dX12_lowest_53 rfl (lv_at hl 2 rfl) ?_
  refine r_get X hW 0 ciX12 8 rfl (by decide) m_1239 rfl (sv_ne (k := 45) (by decide) (sv_ne (k := 44) (by decide) h8_)) dX12_lowest_54 ?_
  refine lv_aload_n (pc := 57) hx hb dX12_lowest_57 rfl (lv_at hl 2 rfl) ?_
  refine r_get X hW 0 ciX12 37 rfl (by decide) m_1268 rfl (sv_ne (k := 45) (by decide) (sv_ne (k := 44) (by decide) h37_)) dX12_lowest_58 ?_
  refine r_iald X hW 3 rfl (vp_in_nI (by omega) (by decide)) dX12_lowest_61 ?_
  refine lv_topi (fun v4 ev4 => ?_)
  obtain rfl : v4 = rD i := ev4.trans (by rw [nI_clamp (by omega)])
  refine lv_iand (pc := 62) hx hb dX12_lowest_62 ?_
  refine lv_aload_n (pc := 63) hx hb dX12_lowest_63 rfl (lv_at hl 2 rfl) ?_
  refine r_get X hW 0 ciX12 44 rfl (by decide) m_1271 rfl (sv_ne (k := 45) (by decide) (sv_eq (k := 44) (n := 64) (by decide) hlen)) dX12_lowest_64 ?_
  refine lv_iconst (v := (-1)) (pc := 67) hx hb dX12_lowest_67 (by decide) ?_
  refine lv_ixor (pc := 68) hx hb dX12_lowest_68 ?_
  refine lv_iand (pc := 69) hx hb dX12_lowest_69 ?_
  refine r_put (ws' := [(h0, .inr (12, (((vs.set 44 (.int (kw ||| ((ca &&& (kw ^^^ (-1 : Int32))) &&& (((rD i) ^^^ (-1 : Int32)) ||| oz))))).set 45 (.int kb)).set 45 (.int (((oz ||| (ca &&& (kw ^^^ (-1 : Int32)))) &&& (rD i)) &&& ((kw ||| ((ca &&& (kw ^^^ (-1 : Int32))) &&& (((rD i) ^^^ (-1 : Int32)) ||| oz))) ^^^ (-1 : Int32))))))), (b6, .inl (g.2.1 1, 11, .inl rP)), (b7, .inl (g.2.1 1, 11, .inl rL)), (b8, .inl (g.2.1 1, 11, .inl rD)), (b12, .inl (g.2.1 1, 132, .inl rA)), (b13, .inl (g.2.1 1, 132, .inl rB)), (b14, .inl (g.2.1 1, 132, .inl rF)), (b15, .inl (g.2.1 1, 132, .inl rT)), (b16, .inl (g.2.1 1, 132, .inl rW)), (b17, .inl (g.2.1 3, 132, .inl rO)), (b34, .inl (g.2.1 0, 425984, .inl gN)), (b35, .inl (g.2.1 1, 7, .inl gR))]) X hW 0 ciX12 45 rfl (by decide) m_1272 rfl rfl rfl rfl (sv_lt (by decide) (sv_len (sv_len hlen))) rfl dX12_lowest_70 (fun H locs hW => ?_)
  rw [pin_j (i := 44) (j := 45)] at hW
  refine lv_aload_n (pc := 73) hx hb dX12_lowest_73 rfl (lv_at hl 2 rfl) ?_
  refine lv_iload_n (pc := 74) hx hb dX12_lowest_74 rfl (lv_at hl 3 rfl) ?_
  refine lv_iconst (v := 1) (pc := 75) hx hb dX12_lowest_75 (by decide) ?_
  refine lv_iadd (pc := 76) hx hb dX12_lowest_76 ?_
  refine lv_topi (fun v5 ev5 => ?_)
  obtain rfl : v5 = nI (h + 1) := ev5.trans (nI_add h 1)
  refine lv_aload_n (pc := 77) hx hb dX12_lowest_77 rfl (lv_at hl 2 rfl) ?_
  refine r_get X hW 0 ciX12 44 rfl (by decide) m_1271 rfl (sv_ne (k := 45) (by decide) (sv_eq (k := 44) (n := 64) (by decide) hlen)) dX12_lowest_78 ?_
  refine lv_aload_n (pc := 81) hx hb dX12_lowest_81 rfl (lv_at hl 2 rfl) ?_
  refine r_get X hW 0 ciX12 45 rfl (by decide) m_1272 rfl (sv_eq (k := 45) (n := 64) (by decide) (sv_len hlen)) dX12_lowest_82 ?_
  refine c_Vi (pc := 85) (As := [.int (nI (h + 1)), .int (kw ||| ((ca &&& (kw ^^^ (-1 : Int32))) &&& (((rD i) ^^^ (-1 : Int32)) ||| oz))), .int (((oz ||| (ca &&& (kw ^^^ (-1 : Int32)))) &&& (rD i)) &&& ((kw ||| ((ca &&& (kw ^^^ (-1 : Int32))) &&& (((rD i) ^^^ (-1 : Int32)) ||| oz))) ^^^ (-1 : Int32)))]) (rest := []) (wr := [(b35, .inl (g.2.1 1, 7, .inl gR))]) X hW 0 ciX12 rfl (K_nh2 l g h0 ((vs.set 44 (.int (kw ||| ((ca &&& (kw ^^^ (-1 : Int32))) &&& (((rD i) ^^^ (-1 : Int32)) ||| oz))))).set 45 (.int (((oz ||| (ca &&& (kw ^^^ (-1 : Int32)))) &&& (rD i)) &&& ((kw ||| ((ca &&& (kw ^^^ (-1 : Int32))) &&& (((rD i) ^^^ (-1 : Int32)) ||| oz))) ^^^ (-1 : Int32))))) am an b6 rP b7 rL b8 rD b12 rA b13 rB b14 rF b15 rT b16 rW b17 rO b34 i lc pe (-1) (-1) (fun h a b => F_X12_mayCall rA rB rF rT rW rO lc i a b (nI h)) (sv_len (sv_len hlen)) (sv_ne (k := 45) (by decide) (sv_ne (k := 44) (by decide) h38_)) (sv_ne (k := 45) (by decide) (sv_ne (k := 44) (by decide) h39_)) (sv_ne (k := 45) (by decide) (sv_ne (k := 44) (by decide) h6_)) (sv_ne (k := 45) (by decide) (sv_ne (k := 44) (by decide) h7_)) (sv_ne (k := 45) (by decide) (sv_ne (k := 44) (by decide) h8_)) (sv_ne (k := 45) (by decide) (sv_ne (k := 44) (by decide) h12_)) (sv_ne (k := 45) (by decide) (sv_ne (k := 44) (by decide) h13_)) (sv_ne (k := 45) (by decide) (sv_ne (k := 44) (by decide) h14_)) (sv_ne (k := 45) (by decide) (sv_ne (k := 44) (by decide) h15_)) (sv_ne (k := 45) (by decide) (sv_ne (k := 44) (by decide) h16_)) (sv_ne (k := 45) (by decide) (sv_ne (k := 44) (by decide) h17_)) (sv_ne (k := 45) (by decide) (sv_ne (k := 44) (by decide) h34_)) (sv_ne (k := 45) (by decide) (sv_ne (k := 44) (by decide) h37_)) (sv_ne (k := 45) (by decide) (sv_ne (k := 44) (by decide) h19_)) (sv_ne (k := 45) (by decide) (sv_ne (k := 44) (by decide) h20_)) hi hlc hL hpe hP (fun h _ _ a b p1 p2 => K_X12_mayCall l g h0 ((vs.set 44 (.int (kw ||| ((ca &&& (kw ^^^ (-1 : Int32))) &&& (((rD i) ^^^ (-1 : Int32)) ||| oz))))).set 45 (.int (((oz ||| (ca &&& (kw ^^^ (-1 : Int32)))) &&& (rD i)) &&& ((kw ||| ((ca &&& (kw ^^^ (-1 : Int32))) &&& (((rD i) ^^^ (-1 : Int32)) ||| oz))) ^^^ (-1 : Int32))))) b7 rL b12 rA b13 rB b14 rF b15 rT b16 rW b17 rO lc i a b (nI h) (sv_len (sv_len hlen)) (sv_ne (k := 45) (by decide) (sv_ne (k := 44) (by decide) h7_)) (sv_ne (k := 45) (by decide) (sv_ne (k := 44) (by decide) h12_)) (sv_ne (k := 45) (by decide) (sv_ne (k := 44) (by decide) h13_)) (sv_ne (k := 45) (by decide) (sv_ne (k := 44) (by decide) h14_)) (sv_ne (k := 45) (by decide) (sv_ne (k := 44) (by decide) h15_)) (sv_ne (k := 45) (by decide) (sv_ne (k := 44) (by decide) h16_)) (sv_ne (k := 45) (by decide) (sv_ne (k := 44) (by decide) h17_)) (sv_ne (k := 45) (by decide) (sv_ne (k := 44) (by decide) h19_)) (sv_ne (k := 45) (by decide) (sv_ne (k := 44) (by decide) h20_)) hi p1 p2 hlc hL) (h + 1) (by omega) (by omega) gN (kw ||| ((ca &&& (kw ^^^ (-1 : Int32))) &&& (((rD i) ^^^ (-1 : Int32)) ||| oz))) (((oz ||| (ca &&& (kw ^^^ (-1 : Int32)))) &&& (rD i)) &&& ((kw ||| ((ca &&& (kw ^^^ (-1 : Int32))) &&& (((rD i) ^^^ (-1 : Int32)) ||| oz))) ^^^ (-1 : Int32))) (s7_or hkw (s7_al (s7_al hca))) (s7_al (s7_al (s7_or hoz (s7_al hca))))) vX12_305 [0, 1, 2, 3, 4, 5, 6, 7, 8, 9, 10] [11] rfl rfl rfl rfl rfl rfl hl.1 rfl (Nat.le_of_ble_eq_true rfl) ⟨Nat.le_of_ble_eq_true rfl, Nat.le_of_ble_eq_true rfl⟩ ⟨Nat.le_of_ble_eq_true rfl, Nat.le_of_ble_eq_true rfl⟩ dX12_lowest_85 (fun r6 u9 H locs hq hW => ?_)
  obtain ⟨rfl, rfl⟩ := hq
  have hW : WD g A s _ _ [(b35, .inl (g.2.1 1, 7, .inl gR)), (h0, .inr (12, ((vs.set 44 (.int (kw ||| ((ca &&& (kw ^^^ (-1 : Int32))) &&& (((rD i) ^^^ (-1 : Int32)) ||| oz))))).set 45 (.int (((oz ||| (ca &&& (kw ^^^ (-1 : Int32)))) &&& (rD i)) &&& ((kw ||| ((ca &&& (kw ^^^ (-1 : Int32))) &&& (((rD i) ^^^ (-1 : Int32)) ||| oz))) ^^^ (-1 : Int32))))))), (b6, .inl (g.2.1 1, 11, .inl rP)), (b7, .inl (g.2.1 1, 11, .inl rL)), (b8, .inl (g.2.1 1, 11, .inl rD)), (b12, .inl (g.2.1 1, 132, .inl rA)), (b13, .inl (g.2.1 1, 132, .inl rB)), (b14, .inl (g.2.1 1, 132, .inl rF)), (b15, .inl (g.2.1 1, 132, .inl rT)), (b16, .inl (g.2.1 1, 132, .inl rW)), (b17, .inl (g.2.1 3, 132, .inl rO)), (b34, .inl (g.2.1 0, 425984, .inl ((NDf am an rD i pe (fun h a b => F_X12_mayCall rA rB rF rT rW rO lc i a b (nI h)) (25 - (h + 1)) (kw ||| ((ca &&& (kw ^^^ (-1 : Int32))) &&& (((rD i) ^^^ (-1 : Int32)) ||| oz))) (((oz ||| (ca &&& (kw ^^^ (-1 : Int32)))) &&& (rD i)) &&& ((kw ||| ((ca &&& (kw ^^^ (-1 : Int32))) &&& (((rD i) ^^^ (-1 : Int32)) ||| oz))) ^^^ (-1 : Int32))) gN).2)))] := hW
  refine lv_iload (pc := 88) hx hb dX12_lowest_88 (lv_at hl 9 rfl) ?_
  refine lv_icmp_gt (tgt := 97) (pc := 90) hx hb dX12_lowest_90 rfl (fun c7 => ?_) (fun c7 => ?_)
  · refine lv_iconst (v := 0) (pc := 97) hx hb dX12_lowest_97 (by decide) ?_
    have hF : F_X12_lowestL am an rD rA rB rF rT rW rO gN gR i lc pe h kw oz ca lf = ((0 : Int32), ((NDf am an rD i pe (fun h a b => F_X12_mayCall rA rB rF rT rW rO lc i a b (nI h)) (25 - (h + 1)) (kw ||| ((ca &&& (kw ^^^ (-1 : Int32))) &&& (((rD i) ^^^ (-1 : Int32)) ||| oz))) (((oz ||| (ca &&& (kw ^^^ (-1 : Int32)))) &&& (rD i)) &&& ((kw ||| ((ca &&& (kw ^^^ (-1 : Int32))) &&& (((rD i) ^^^ (-1 : Int32)) ||| oz))) ^^^ (-1 : Int32))) gN).2), gR, kw ||| ((ca &&& (kw ^^^ (-1 : Int32))) &&& (((rD i) ^^^ (-1 : Int32)) ||| oz)), ((oz ||| (ca &&& (kw ^^^ (-1 : Int32)))) &&& (rD i)) &&& ((kw ||| ((ca &&& (kw ^^^ (-1 : Int32))) &&& (((rD i) ^^^ (-1 : Int32)) ||| oz))) ^^^ (-1 : Int32))) := show F_X12_lowestL am an rD rA rB rF rT rW rO gN gR i lc pe h kw oz ca lf = ((0 : Int32), ((NDf am an rD i pe (fun h a b => F_X12_mayCall rA rB rF rT rW rO lc i a b (nI h)) (25 - (h + 1)) (kw ||| ((ca &&& (kw ^^^ (-1 : Int32))) &&& (((rD i) ^^^ (-1 : Int32)) ||| oz))) (((oz ||| (ca &&& (kw ^^^ (-1 : Int32)))) &&& (rD i)) &&& ((kw ||| ((ca &&& (kw ^^^ (-1 : Int32))) &&& (((rD i) ^^^ (-1 : Int32)) ||| oz))) ^^^ (-1 : Int32))) gN).2), gR, kw ||| ((ca &&& (kw ^^^ (-1 : Int32))) &&& (((rD i) ^^^ (-1 : Int32)) ||| oz)), ((oz ||| (ca &&& (kw ^^^ (-1 : Int32)))) &&& (rD i)) &&& ((kw ||| ((ca &&& (kw ^^^ (-1 : Int32))) &&& (((rD i) ^^^ (-1 : Int32)) ||| oz))) ^^^ (-1 : Int32))) from by rw [F_X12_lowestL, if_pos c7]
    exact e_z (u := [(h0, .inr (12, ((vs.set 44 (.int (kw ||| ((ca &&& (kw ^^^ (-1 : Int32))) &&& (((rD i) ^^^ (-1 : Int32)) ||| oz))))).set 45 (.int (((oz ||| (ca &&& (kw ^^^ (-1 : Int32)))) &&& (rD i)) &&& ((kw ||| ((ca &&& (kw ^^^ (-1 : Int32))) &&& (((rD i) ^^^ (-1 : Int32)) ||| oz))) ^^^ (-1 : Int32))))))), (b6, .inl (g.2.1 1, 11, .inl rP)), (b7, .inl (g.2.1 1, 11, .inl rL)), (b8, .inl (g.2.1 1, 11, .inl rD)), (b12, .inl (g.2.1 1, 132, .inl rA)), (b13, .inl (g.2.1 1, 132, .inl rB)), (b14, .inl (g.2.1 1, 132, .inl rF)), (b15, .inl (g.2.1 1, 132, .inl rT)), (b16, .inl (g.2.1 1, 132, .inl rW)), (b17, .inl (g.2.1 3, 132, .inl rO)), (b34, .inl (g.2.1 0, 425984, .inl ((NDf am an rD i pe (fun h a b => F_X12_mayCall rA rB rF rT rW rO lc i a b (nI h)) (25 - (h + 1)) (kw ||| ((ca &&& (kw ^^^ (-1 : Int32))) &&& (((rD i) ^^^ (-1 : Int32)) ||| oz))) (((oz ||| (ca &&& (kw ^^^ (-1 : Int32)))) &&& (rD i)) &&& ((kw ||| ((ca &&& (kw ^^^ (-1 : Int32))) &&& (((rD i) ^^^ (-1 : Int32)) ||| oz))) ^^^ (-1 : Int32))) gN).2))), (b35, .inl (g.2.1 1, 7, .inl gR))]) X hQ hr (hW) rfl [1, 2, 3, 4, 5, 6, 7, 8, 9, 10, 11, 0] rfl rfl (⟨(congrArg Prod.fst hF).symm, by rw [hF]⟩) ⟨Nat.le_of_ble_eq_true rfl, Nat.le_of_ble_eq_true rfl⟩ dX12_lowest_98
  · refine lv_iconst (v := 1) (pc := 93) hx hb dX12_lowest_93 (by decide) ?_
    refine lv_goto (tgt := 98) (pc := 94) hx hb dX12_lowest_94 rfl ?_
    have hF : F_X12_lowestL am an rD rA rB rF rT rW rO gN gR i lc pe h kw oz ca lf = ((1 : Int32), ((NDf am an rD i pe (fun h a b => F_X12_mayCall rA rB rF rT rW rO lc i a b (nI h)) (25 - (h + 1)) (kw ||| ((ca &&& (kw ^^^ (-1 : Int32))) &&& (((rD i) ^^^ (-1 : Int32)) ||| oz))) (((oz ||| (ca &&& (kw ^^^ (-1 : Int32)))) &&& (rD i)) &&& ((kw ||| ((ca &&& (kw ^^^ (-1 : Int32))) &&& (((rD i) ^^^ (-1 : Int32)) ||| oz))) ^^^ (-1 : Int32))) gN).2), gR, kw ||| ((ca &&& (kw ^^^ (-1 : Int32))) &&& (((rD i) ^^^ (-1 : Int32)) ||| oz)), ((oz ||| (ca &&& (kw ^^^ (-1 : Int32)))) &&& (rD i)) &&& ((kw ||| ((ca &&& (kw ^^^ (-1 : Int32))) &&& (((rD i) ^^^ (-1 : Int32)) ||| oz))) ^^^ (-1 : Int32))) := show F_X12_lowestL am an rD rA rB rF rT rW rO gN gR i lc pe h kw oz ca lf = ((1 : Int32), ((NDf am an rD i pe (fun h a b => F_X12_mayCall rA rB rF rT rW rO lc i a b (nI h)) (25 - (h + 1)) (kw ||| ((ca &&& (kw ^^^ (-1 : Int32))) &&& (((rD i) ^^^ (-1 : Int32)) ||| oz))) (((oz ||| (ca &&& (kw ^^^ (-1 : Int32)))) &&& (rD i)) &&& ((kw ||| ((ca &&& (kw ^^^ (-1 : Int32))) &&& (((rD i) ^^^ (-1 : Int32)) ||| oz))) ^^^ (-1 : Int32))) gN).2), gR, kw ||| ((ca &&& (kw ^^^ (-1 : Int32))) &&& (((rD i) ^^^ (-1 : Int32)) ||| oz)), ((oz ||| (ca &&& (kw ^^^ (-1 : Int32)))) &&& (rD i)) &&& ((kw ||| ((ca &&& (kw ^^^ (-1 : Int32))) &&& (((rD i) ^^^ (-1 : Int32)) ||| oz))) ^^^ (-1 : Int32))) from by rw [F_X12_lowestL, if_neg c7]
    exact e_z (u := [(h0, .inr (12, ((vs.set 44 (.int (kw ||| ((ca &&& (kw ^^^ (-1 : Int32))) &&& (((rD i) ^^^ (-1 : Int32)) ||| oz))))).set 45 (.int (((oz ||| (ca &&& (kw ^^^ (-1 : Int32)))) &&& (rD i)) &&& ((kw ||| ((ca &&& (kw ^^^ (-1 : Int32))) &&& (((rD i) ^^^ (-1 : Int32)) ||| oz))) ^^^ (-1 : Int32))))))), (b6, .inl (g.2.1 1, 11, .inl rP)), (b7, .inl (g.2.1 1, 11, .inl rL)), (b8, .inl (g.2.1 1, 11, .inl rD)), (b12, .inl (g.2.1 1, 132, .inl rA)), (b13, .inl (g.2.1 1, 132, .inl rB)), (b14, .inl (g.2.1 1, 132, .inl rF)), (b15, .inl (g.2.1 1, 132, .inl rT)), (b16, .inl (g.2.1 1, 132, .inl rW)), (b17, .inl (g.2.1 3, 132, .inl rO)), (b34, .inl (g.2.1 0, 425984, .inl ((NDf am an rD i pe (fun h a b => F_X12_mayCall rA rB rF rT rW rO lc i a b (nI h)) (25 - (h + 1)) (kw ||| ((ca &&& (kw ^^^ (-1 : Int32))) &&& (((rD i) ^^^ (-1 : Int32)) ||| oz))) (((oz ||| (ca &&& (kw ^^^ (-1 : Int32)))) &&& (rD i)) &&& ((kw ||| ((ca &&& (kw ^^^ (-1 : Int32))) &&& (((rD i) ^^^ (-1 : Int32)) ||| oz))) ^^^ (-1 : Int32))) gN).2))), (b35, .inl (g.2.1 1, 7, .inl gR))]) X hQ hr (hW) rfl [1, 2, 3, 4, 5, 6, 7, 8, 9, 10, 11, 0] rfl rfl (⟨(congrArg Prod.fst hF).symm, by rw [hF]⟩) ⟨Nat.le_of_ble_eq_true rfl, Nat.le_of_ble_eq_true rfl⟩ dX12_lowest_98

def LW (am : Int32) (an : Int32) (h : Nat) (i : Nat) (kw : Int32) (lc : Nat) (lf : Int32) (oz : Int32) (pe : Nat) (rA : Nat → Int32) (rB : Nat → Int32) (rD : Nat → Int32) (rF : Nat → Int32) (rO : Nat → Int32) (rT : Nat → Int32) (rW : Nat → Int32) : Nat → LWT
  | 0 => fun _ bu ca gN gR ka kb => F_X12_lowestL am an rD rA rB rF rT rW rO gN gR i lc pe h kw oz ca lf
  | f + 1 => fun fj bu ca gN gR ka kb => F_X12_lowest an rA rB rF rT rW rO gN gR ka kb i lc pe h kw fj bu ca (LW am an h i kw lc lf oz pe rA rB rD rF rO rT rW f)
theorem zb_0 : zb 0 = 0 := if_pos rfl
theorem zb_1 : zb 1 = 1 := if_neg (by decide)
theorem zb_zb {x : Int32} : zb (zb x) = zb x := by
  by_cases h : x = 0
  · rw [show zb x = 0 from if_pos h]; exact zb_0
  · rw [show zb x = 1 from if_neg h]; exact zb_1
section
variable {am : Int32} {an : Int32} {h : Nat} {i : Nat} {kw : Int32} {lc : Nat} {lf : Int32} {oz : Int32} {pe : Nat} {rA : Nat → Int32} {rB : Nat → Int32} {rD : Nat → Int32} {rF : Nat → Int32} {rO : Nat → Int32} {rT : Nat → Int32} {rW : Nat → Int32} {bu ca : Int32} {fj : Nat} {R : LWT}
theorem lwL_01 : ∀ (m j : Nat) (N G : Nat → Int32) (ka kb : Int32), zb (L1_X12_lowest an rA rB rF rT rW rO i lc pe h kw fj bu ca R m j N G ka kb).1 = (L1_X12_lowest an rA rB rF rT rW rO i lc pe h kw fj bu ca R m j N G ka kb).1
  | 0, _, _, _, _, _ => zb_0
  | m + 1, j, N, G, ka, kb => by
    rw [L1_X12_lowest]
    (repeat' split) <;> first | exact zb_zb | exact zb_1 | exact lwL_01 m _ _ _ _ _
theorem lw_01 : ∀ (f fj : Nat) (bu ca : Int32) (gN gR : Nat → Int32) (ka kb : Int32), zb (LW am an h i kw lc lf oz pe rA rB rD rF rO rT rW f fj bu ca gN gR ka kb).1 = (LW am an h i kw lc lf oz pe rA rB rD rF rO rT rW f fj bu ca gN gR ka kb).1
  | 0, fj, bu, ca, gN, gR, ka, kb => by
    show zb (F_X12_lowestL am an rD rA rB rF rT rW rO gN gR i lc pe h kw oz ca lf).1 = (F_X12_lowestL am an rD rA rB rF rT rW rO gN gR i lc pe h kw oz ca lf).1
    unfold F_X12_lowestL
    (repeat' split) <;> first | exact zb_1 | exact zb_0
  | f + 1, fj, bu, ca, gN, gR, ka, kb => by
    show zb (F_X12_lowest an rA rB rF rT rW rO gN gR ka kb i lc pe h kw fj bu ca (LW am an h i kw lc lf oz pe rA rB rD rF rO rT rW f)).1 = (F_X12_lowest an rA rB rF rT rW rO gN gR ka kb i lc pe h kw fj bu ca (LW am an h i kw lc lf oz pe rA rB rD rF rO rT rW f)).1
    unfold F_X12_lowest
    (repeat' split) <;> first | exact lwL_01 _ _ _ _ _ _ | exact zb_zb
theorem lwL_7 (hR : ∀ (bu ca : Int32) (N G : Nat → Int32) (ka kb : Int32), s7 ca → s7 (R (fj + 1) bu ca N G ka kb).2.2.2.1 ∧ s7 (R (fj + 1) bu ca N G ka kb).2.2.2.2) (hca : s7 ca) (hpe : pe ≤ 7) : ∀ (m j : Nat) (N G : Nat → Int32) (ka kb : Int32), pe < m + j → j ≤ pe → s7 (L1_X12_lowest an rA rB rF rT rW rO i lc pe h kw fj bu ca R m j N G ka kb).2.2.2.1 ∧ s7 (L1_X12_lowest an rA rB rF rT rW rO i lc pe h kw fj bu ca R m j N G ka kb).2.2.2.2
  | 0, _, _, _, _, _, _, _ => ⟨s7_0, s7_0⟩
  | m + 1, j, N, G, ka, kb, h, h2 => by
    rw [L1_X12_lowest]
    by_cases c1 : nI pe ≤ nI j
    · rw [if_pos c1]; exact hR _ _ _ _ _ _ hca
    · rw [if_neg c1]
      have hj : j < pe := by
        have z : ¬ pe ≤ j := fun z => c1 ((nI_leI (by omega) (by omega)).mpr z)
        omega
      have ih := fun N G ka kb => lwL_7 hR hca hpe m (j + 1) N G ka kb (by omega) (by omega)
      have hb := s7_or hca (s7_b1 (show j < 7 by omega))
      (repeat' split) <;> first | exact ih _ _ _ _ | exact hR _ _ _ _ _ _ hb
theorem lw_7 (hkw : s7 kw) (hoz : s7 oz) (hpe : pe ≤ 7) : ∀ (f fj : Nat) (bu ca : Int32) (gN gR : Nat → Int32) (ka kb : Int32), s7 ca → s7 (LW am an h i kw lc lf oz pe rA rB rD rF rO rT rW f fj bu ca gN gR ka kb).2.2.2.1 ∧ s7 (LW am an h i kw lc lf oz pe rA rB rD rF rO rT rW f fj bu ca gN gR ka kb).2.2.2.2
  | 0, fj, bu, ca, gN, gR, ka, kb, hca => by
    show s7 (F_X12_lowestL am an rD rA rB rF rT rW rO gN gR i lc pe h kw oz ca lf).2.2.2.1 ∧ s7 (F_X12_lowestL am an rD rA rB rF rT rW rO gN gR i lc pe h kw oz ca lf).2.2.2.2
    unfold F_X12_lowestL
    (repeat' split) <;> (try dsimp only) <;> exact ⟨s7_or hkw (s7_al (s7_al hca)), s7_al (s7_al (s7_or hoz (s7_al hca)))⟩
  | f + 1, fj, bu, ca, gN, gR, ka, kb, hca => by
    have ih := fun bu ca N G ka kb h => lw_7 hkw hoz hpe f (fj + 1) bu ca N G ka kb h
    show s7 (F_X12_lowest an rA rB rF rT rW rO gN gR ka kb i lc pe h kw fj bu ca (LW am an h i kw lc lf oz pe rA rB rD rF rO rT rW f)).2.2.2.1 ∧ s7 (F_X12_lowest an rA rB rF rT rW rO gN gR ka kb i lc pe h kw fj bu ca (LW am an h i kw lc lf oz pe rA rB rD rF rO rT rW f)).2.2.2.2
    unfold F_X12_lowest
    split
    · split
      · split
        · exact lwL_7 ih hca hpe _ _ _ _ _ _ (by omega) (by omega)
        · try dsimp only
          exact ih _ _ _ _ _ _ hca
      · try dsimp only
        exact ih _ _ _ _ _ _ hca
    · try dsimp only
      exact ih _ _ _ _ _ _ hca
end
theorem K_lw (l : Launch) (g : GG) (h0 : Nat) (vs : List Value) (am : Int32) (an : Int32) (b6 : Nat) (rP : Nat → Int32) (b7 : Nat) (rL : Nat → Int32) (b8 : Nat) (rD : Nat → Int32) (b12 : Nat) (rA : Nat → Int32) (b13 : Nat) (rB : Nat → Int32) (b14 : Nat) (rF : Nat → Int32) (b15 : Nat) (rT : Nat → Int32) (b16 : Nat) (rW : Nat → Int32) (b17 : Nat) (rO : Nat → Int32) (b34 : Nat) (b35 : Nat) (i : Nat) (lc : Nat) (pe : Nat) (h : Nat) (kw oz lf : Int32) (hlen : vs.length = 64) (h38_ : vs[38]? = some (.int am)) (h39_ : vs[39]? = some (.int an)) (h6_ : vs[6]? = some (.ref b6)) (h7_ : vs[7]? = some (.ref b7)) (h8_ : vs[8]? = some (.ref b8)) (h12_ : vs[12]? = some (.ref b12)) (h13_ : vs[13]? = some (.ref b13)) (h14_ : vs[14]? = some (.ref b14)) (h15_ : vs[15]? = some (.ref b15)) (h16_ : vs[16]? = some (.ref b16)) (h17_ : vs[17]? = some (.ref b17)) (h34_ : vs[34]? = some (.ref b34)) (h35_ : vs[35]? = some (.ref b35)) (hi : i < 11) (hlc : lc ≤ 12) (hL : rL i = nI lc) (hpe : pe ≤ 7) (hP : rP i = nI pe) (h37_ : vs[37]? = some (.int (nI i))) (h19_ : vs[19]? = some (.int (-1))) (h20_ : vs[20]? = some (.int (-1))) (hh : 1 ≤ h ∧ h ≤ 24) (hkw : s7 kw) (hoz : s7 oz) : ∀ (f fj : Nat), fj + f = pe → ∀ (gN gR : Nat → Int32) (ka kb bu ca : Int32), s7 ca → MetI l g yX12_lowest cX12_lowest 10 (some .boolean) (230 + f + 1) 0 0 [.ref h0, .int (nI h), .int kw, .int oz, .int (nI fj), .int bu, .int ca, .int lf] [(h0, .inr (12, ((vs.set 44 (.int ka)).set 45 (.int kb)))), (b6, .inl (g.2.1 1, 11, .inl rP)), (b7, .inl (g.2.1 1, 11, .inl rL)), (b8, .inl (g.2.1 1, 11, .inl rD)), (b12, .inl (g.2.1 1, 132, .inl rA)), (b13, .inl (g.2.1 1, 132, .inl rB)), (b14, .inl (g.2.1 1, 132, .inl rF)), (b15, .inl (g.2.1 1, 132, .inl rT)), (b16, .inl (g.2.1 1, 132, .inl rW)), (b17, .inl (g.2.1 3, 132, .inl rO)), (b34, .inl (g.2.1 0, 425984, .inl gN)), (b35, .inl (g.2.1 1, 7, .inl gR))] (fun r u => r = zb (LW am an h i kw lc lf oz pe rA rB rD rF rO rT rW f fj bu ca gN gR ka kb).1 ∧ u = [(h0, .inr (12, ((vs.set 44 (.int ((LW am an h i kw lc lf oz pe rA rB rD rF rO rT rW f fj bu ca gN gR ka kb).2.2.2.1))).set 45 (.int ((LW am an h i kw lc lf oz pe rA rB rD rF rO rT rW f fj bu ca gN gR ka kb).2.2.2.2))))), (b6, .inl (g.2.1 1, 11, .inl rP)), (b7, .inl (g.2.1 1, 11, .inl rL)), (b8, .inl (g.2.1 1, 11, .inl rD)), (b12, .inl (g.2.1 1, 132, .inl rA)), (b13, .inl (g.2.1 1, 132, .inl rB)), (b14, .inl (g.2.1 1, 132, .inl rF)), (b15, .inl (g.2.1 1, 132, .inl rT)), (b16, .inl (g.2.1 1, 132, .inl rW)), (b17, .inl (g.2.1 3, 132, .inl rO)), (b34, .inl (g.2.1 0, 425984, .inl ((LW am an h i kw lc lf oz pe rA rB rD rF rO rT rW f fj bu ca gN gR ka kb).2.1))), (b35, .inl (g.2.1 1, 7, .inl ((LW am an h i kw lc lf oz pe rA rB rD rF rO rT rW f fj bu ca gN gR ka kb).2.2.1)))])
  | 0, fj, e => fun gN gR ka kb bu ca hca => by
    have e9 : fj = pe := by omega
    rw [e9]
    have q := K_X12_lowestL l g h0 vs am an b6 rP b7 rL b8 rD b12 rA b13 rB b14 rF b15 rT b16 rW b17 rO b34 gN b35 gR ka kb i lc pe h kw oz bu ca lf  hlen h38_ h39_ h6_ h7_ h8_ h12_ h13_ h14_ h15_ h16_ h17_ h34_ h35_ hi hlc hL hpe hP h37_ h19_ h20_ hh hkw hoz hca
    rw [lw_01]
    exact q
  | f + 1, fj, e => fun gN gR ka kb bu ca hca => by
    have q := K_X12_lowest l g h0 vs am an b6 rP b7 rL b8 rD b12 rA b13 rB b14 rF b15 rT b16 rW b17 rO b34 gN b35 gR ka kb i lc pe h kw oz fj bu ca lf (LW am an h i kw lc lf oz pe rA rB rD rF rO rT rW f) (230 + f + 1) (by omega) hlen h38_ h39_ h6_ h7_ h8_ h12_ h13_ h14_ h15_ h16_ h17_ h34_ h35_ hi hlc hL hpe hP h37_ h19_ h20_ (by omega) hh hkw hoz hca (fun N G ka kb bu ca hca => K_lw l g h0 vs am an b6 rP b7 rL b8 rD b12 rA b13 rB b14 rF b15 rT b16 rW b17 rO b34 b35 i lc pe h kw oz lf hlen h38_ h39_ h6_ h7_ h8_ h12_ h13_ h14_ h15_ h16_ h17_ h34_ h35_ hi hlc hL hpe hP h37_ h19_ h20_ hh hkw hoz f (fj + 1) (by omega) N G ka kb bu ca hca)
    rw [lw_01]
    exact q
theorem i0n_at {t v : Int32} (hv : v = nI (tN v) ∧ tN v ≤ 24) (h : ¬ F_X12_isIn t 0 (v - 1) = 0) : 1 ≤ tN v ∧ t = nI (tN t) ∧ tN t < tN v := by
  obtain ⟨a, b⟩ := in_at h
  rw [hv.1] at b
  by_cases c : tN v = 0
  · exfalso
    rw [c] at b
    exact absurd (Int32.le_trans a b) (by decide)
  · have e : nI (tN v) - 1 = nI (tN v - 1) := pk_sub (a := tN v) (b := 1) (by omega)
    rw [e] at b
    obtain ⟨q1, q2, q3⟩ := bn_at (lo := 0) (hi := tN v - 1) (by omega) a b
    exact ⟨by omega, q1, by omega⟩
theorem per_ok {rP : Nat → Int32} {i pe o : Nat} (hpe : pe ≤ 7) (hP : rP i = nI pe) (ho : o < pe) : ¬ F_X12_isPerson rP i (nI o) = 0 := by
  have e : nI pe - 1 = nI (pe - 1) := pk_sub (a := pe) (b := 1) (by omega)
  unfold F_X12_isPerson F_X12_isIn
  rw [hP, e, if_neg (show ¬ nI o < (0 : Int32) from fun q => absurd ((nI_ltI (a := o) (b := 0) (by omega) (by omega)).mp q) (Nat.not_lt_zero _)), if_neg (fun q => by
    have := (nI_ltI (a := pe - 1) (b := o) (by omega) (by omega)).mp q
    omega)]
  decide
def L1_X12_found1s (rD : Nat → Int32) (rK : Nat → Int32) (rM : Nat → Int32) (rS : Nat → Int32) (rA : Nat → Int32) (rB : Nat → Int32) (rF : Nat → Int32) (rT : Nat → Int32) (rW : Nat → Int32) (rO : Nat → Int32) (gN : Nat → Int32) (i : Nat) (lc : Nat) (pe : Nat) (ni : Nat) (h : Nat) (j1 : Nat) (x8_1 : Int32) (x7_1 : Int32) (fb34_1 : Nat → Int32) (fb35_1 : Nat → Int32) (y44_1 : Int32) (y45_1 : Int32) : Int32 × Int32 × (Nat → Int32) × (Nat → Int32) × Int32 × Int32 := ((LW (rM (4 * i + ni)) (rS (4 * i + ni)) (h + j1) i x7_1 lc (nI (tN (F_X12_leastFrom rD rK rM rS rA rB rF rT rW rO gN i lc pe ni h).1 - j1 - 1)) x8_1 pe rA rB rD rF rO rT rW pe 0 0 0 fb34_1 fb35_1 y44_1 y45_1).2.2.2.2, (LW (rM (4 * i + ni)) (rS (4 * i + ni)) (h + j1) i x7_1 lc (nI (tN (F_X12_leastFrom rD rK rM rS rA rB rF rT rW rO gN i lc pe ni h).1 - j1 - 1)) x8_1 pe rA rB rD rF rO rT rW pe 0 0 0 fb34_1 fb35_1 y44_1 y45_1).2.2.2.1, ((LW (rM (4 * i + ni)) (rS (4 * i + ni)) (h + j1) i x7_1 lc (nI (tN (F_X12_leastFrom rD rK rM rS rA rB rF rT rW rO gN i lc pe ni h).1 - j1 - 1)) x8_1 pe rA rB rD rF rO rT rW pe 0 0 0 fb34_1 fb35_1 y44_1 y45_1).2.1), ((LW (rM (4 * i + ni)) (rS (4 * i + ni)) (h + j1) i x7_1 lc (nI (tN (F_X12_leastFrom rD rK rM rS rA rB rF rT rW rO gN i lc pe ni h).1 - j1 - 1)) x8_1 pe rA rB rD rF rO rT rW pe 0 0 0 fb34_1 fb35_1 y44_1 y45_1).2.2.1), (LW (rM (4 * i + ni)) (rS (4 * i + ni)) (h + j1) i x7_1 lc (nI (tN (F_X12_leastFrom rD rK rM rS rA rB rF rT rW rO gN i lc pe ni h).1 - j1 - 1)) x8_1 pe rA rB rD rF rO rT rW pe 0 0 0 fb34_1 fb35_1 y44_1 y45_1).2.2.2.1, (LW (rM (4 * i + ni)) (rS (4 * i + ni)) (h + j1) i x7_1 lc (nI (tN (F_X12_leastFrom rD rK rM rS rA rB rF rT rW rO gN i lc pe ni h).1 - j1 - 1)) x8_1 pe rA rB rD rF rO rT rW pe 0 0 0 fb34_1 fb35_1 y44_1 y45_1).2.2.2.2)
def L1_X12_found1 (rD : Nat → Int32) (rK : Nat → Int32) (rM : Nat → Int32) (rS : Nat → Int32) (rA : Nat → Int32) (rB : Nat → Int32) (rF : Nat → Int32) (rT : Nat → Int32) (rW : Nat → Int32) (rO : Nat → Int32) (gN : Nat → Int32) (i : Nat) (lc : Nat) (pe : Nat) (ni : Nat) (h : Nat) (i0_ : Int32) (i1_ : Int32) (i2_ : Nat → Int32) (i3_ : Nat → Int32) (i4_ : Int32) (i5_ : Int32) : Nat → Int32 × Int32 × (Nat → Int32) × (Nat → Int32) × Int32 × Int32
  | 0 => (i0_, i1_, i2_, i3_, i4_, i5_)
  | k_ + 1 => L1_X12_found1s rD rK rM rS rA rB rF rT rW rO gN i lc pe ni h k_ ((L1_X12_found1 rD rK rM rS rA rB rF rT rW rO gN i lc pe ni h i0_ i1_ i2_ i3_ i4_ i5_ k_).1) ((L1_X12_found1 rD rK rM rS rA rB rF rT rW rO gN i lc pe ni h i0_ i1_ i2_ i3_ i4_ i5_ k_).2.1) ((L1_X12_found1 rD rK rM rS rA rB rF rT rW rO gN i lc pe ni h i0_ i1_ i2_ i3_ i4_ i5_ k_).2.2.1) ((L1_X12_found1 rD rK rM rS rA rB rF rT rW rO gN i lc pe ni h i0_ i1_ i2_ i3_ i4_ i5_ k_).2.2.2.1) ((L1_X12_found1 rD rK rM rS rA rB rF rT rW rO gN i lc pe ni h i0_ i1_ i2_ i3_ i4_ i5_ k_).2.2.2.2.1) ((L1_X12_found1 rD rK rM rS rA rB rF rT rW rO gN i lc pe ni h i0_ i1_ i2_ i3_ i4_ i5_ k_).2.2.2.2.2)
def F_X12_found1 (rD : Nat → Int32) (rK : Nat → Int32) (rM : Nat → Int32) (rS : Nat → Int32) (rA : Nat → Int32) (rB : Nat → Int32) (rF : Nat → Int32) (rT : Nat → Int32) (rW : Nat → Int32) (rO : Nat → Int32) (gN : Nat → Int32) (gR : Nat → Int32) (ka : Int32) (kb : Int32) (i : Nat) (lc : Nat) (pe : Nat) (ni : Nat) (h : Nat) (t : Int32) (o : Nat) : Int32 × (Nat → Int32) × (Nat → Int32) × Int32 × Int32 := if (F_X12_leastFrom rD rK rM rS rA rB rF rT rW rO gN i lc pe ni h).1 = 99 then (((-1 : Int32), ((F_X12_leastFrom rD rK rM rS rA rB rF rT rW rO gN i lc pe ni h).2), gR, ka, kb)) else (if (F_X12_isIn t (0 : Int32) (((F_X12_leastFrom rD rK rM rS rA rB rF rT rW rO gN i lc pe ni h).1) - (1 : Int32))) = 0 then (((-1 : Int32), ((F_X12_leastFrom rD rK rM rS rA rB rF rT rW rO gN i lc pe ni h).2), gR, ka, kb)) else ((((L1_X12_found1 rD rK rM rS rA rB rF rT rW rO gN i lc pe ni h (0 : Int32) (rK (4 * i + ni)) ((F_X12_leastFrom rD rK rM rS rA rB rF rT rW rO gN i lc pe ni h).2) gR ka kb (tN t + 1)).2.2.2.1) o, ((L1_X12_found1 rD rK rM rS rA rB rF rT rW rO gN i lc pe ni h (0 : Int32) (rK (4 * i + ni)) ((F_X12_leastFrom rD rK rM rS rA rB rF rT rW rO gN i lc pe ni h).2) gR ka kb (tN t + 1)).2.2.1), ((L1_X12_found1 rD rK rM rS rA rB rF rT rW rO gN i lc pe ni h (0 : Int32) (rK (4 * i + ni)) ((F_X12_leastFrom rD rK rM rS rA rB rF rT rW rO gN i lc pe ni h).2) gR ka kb (tN t + 1)).2.2.2.1), ((L1_X12_found1 rD rK rM rS rA rB rF rT rW rO gN i lc pe ni h (0 : Int32) (rK (4 * i + ni)) ((F_X12_leastFrom rD rK rM rS rA rB rF rT rW rO gN i lc pe ni h).2) gR ka kb (tN t + 1)).2.2.2.2.1), ((L1_X12_found1 rD rK rM rS rA rB rF rT rW rO gN i lc pe ni h (0 : Int32) (rK (4 * i + ni)) ((F_X12_leastFrom rD rK rM rS rA rB rF rT rW rO gN i lc pe ni h).2) gR ka kb (tN t + 1)).2.2.2.2.2))))
set_option maxHeartbeats 4000000 in
set_option maxRecDepth 100000 in
theorem K_X12_found1 (l : Launch) (g : GG) (h0 : Nat) (vs : List Value) (nv : Nat) (b6 : Nat) (rP : Nat → Int32) (b7 : Nat) (rL : Nat → Int32) (b8 : Nat) (rD : Nat → Int32) (b9 : Nat) (rK : Nat → Int32) (b10 : Nat) (rM : Nat → Int32) (b11 : Nat) (rS : Nat → Int32) (b12 : Nat) (rA : Nat → Int32) (b13 : Nat) (rB : Nat → Int32) (b14 : Nat) (rF : Nat → Int32) (b15 : Nat) (rT : Nat → Int32) (b16 : Nat) (rW : Nat → Int32) (b17 : Nat) (rO : Nat → Int32) (b34 : Nat) (gN : Nat → Int32) (b35 : Nat) (gR : Nat → Int32) (ka : Int32) (kb : Int32) (i : Nat) (lc : Nat) (pe : Nat) (ni : Nat) (h : Nat) (t : Int32) (o : Nat) (hlen : vs.length = 64) (h18_ : vs[18]? = some (.int (nI nv))) (h6_ : vs[6]? = some (.ref b6)) (h7_ : vs[7]? = some (.ref b7)) (h8_ : vs[8]? = some (.ref b8)) (h9_ : vs[9]? = some (.ref b9)) (h10_ : vs[10]? = some (.ref b10)) (h11_ : vs[11]? = some (.ref b11)) (h12_ : vs[12]? = some (.ref b12)) (h13_ : vs[13]? = some (.ref b13)) (h14_ : vs[14]? = some (.ref b14)) (h15_ : vs[15]? = some (.ref b15)) (h16_ : vs[16]? = some (.ref b16)) (h17_ : vs[17]? = some (.ref b17)) (h34_ : vs[34]? = some (.ref b34)) (h35_ : vs[35]? = some (.ref b35)) (hn : nv ≤ 10) (hv : i < nv) (hlc : lc ≤ 12) (hL : rL i = nI lc) (hpe : pe ≤ 7) (hP : rP i = nI pe) (h19_ : vs[19]? = some (.int (-1))) (h20_ : vs[20]? = some (.int (-1))) (h44_ : vs[44]? = some (.int ka)) (h45_ : vs[45]? = some (.int kb)) (hni : ni < 4) (hh1 : 1 ≤ h) (hh2 : h ≤ 24) (ho : o < pe) (hkn : ∀ j : Nat, j < 44 → s7 (rK j)) (hval : (F_X12_leastFrom rD rK rM rS rA rB rF rT rW rO gN i lc pe ni h).1 = 99 ∨ ((F_X12_leastFrom rD rK rM rS rA rB rF rT rW rO gN i lc pe ni h).1 = nI (tN (F_X12_leastFrom rD rK rM rS rA rB rF rT rW rO gN i lc pe ni h).1) ∧ tN (F_X12_leastFrom rD rK rM rS rA rB rF rT rW rO gN i lc pe ni h).1 + h ≤ 25)) : MetI l g yX12_found cX12_found 11 (some .int) 242 0 0 [.ref h0, .int (nI i), .int (nI ni), .int (nI h), .int t, .int (nI o)] [(h0, .inr (12, vs)), (b6, .inl (g.2.1 1, 11, .inl rP)), (b7, .inl (g.2.1 1, 11, .inl rL)), (b8, .inl (g.2.1 1, 11, .inl rD)), (b9, .inl (g.2.1 1, 44, .inl rK)), (b10, .inl (g.2.1 1, 44, .inl rM)), (b11, .inl (g.2.1 1, 44, .inl rS)), (b12, .inl (g.2.1 1, 132, .inl rA)), (b13, .inl (g.2.1 1, 132, .inl rB)), (b14, .inl (g.2.1 1, 132, .inl rF)), (b15, .inl (g.2.1 1, 132, .inl rT)), (b16, .inl (g.2.1 1, 132, .inl rW)), (b17, .inl (g.2.1 3, 132, .inl rO)), (b34, .inl (g.2.1 0, 425984, .inl gN)), (b35, .inl (g.2.1 1, 7, .inl gR))] (fun r u => r = (F_X12_found1 rD rK rM rS rA rB rF rT rW rO gN gR ka kb i lc pe ni h t o).1 ∧ u = [(h0, .inr (12, ((((((vs.set 0 (.int 0)).set 37 (.int (nI i))).set 38 (.int (rM (4 * i + ni)))).set 39 (.int (rS (4 * i + ni)))).set 44 (.int ((F_X12_found1 rD rK rM rS rA rB rF rT rW rO gN gR ka kb i lc pe ni h t o).2.2.2.1))).set 45 (.int ((F_X12_found1 rD rK rM rS rA rB rF rT rW rO gN gR ka kb i lc pe ni h t o).2.2.2.2))))), (b6, .inl (g.2.1 1, 11, .inl rP)), (b7, .inl (g.2.1 1, 11, .inl rL)), (b8, .inl (g.2.1 1, 11, .inl rD)), (b9, .inl (g.2.1 1, 44, .inl rK)), (b10, .inl (g.2.1 1, 44, .inl rM)), (b11, .inl (g.2.1 1, 44, .inl rS)), (b12, .inl (g.2.1 1, 132, .inl rA)), (b13, .inl (g.2.1 1, 132, .inl rB)), (b14, .inl (g.2.1 1, 132, .inl rF)), (b15, .inl (g.2.1 1, 132, .inl rT)), (b16, .inl (g.2.1 1, 132, .inl rW)), (b17, .inl (g.2.1 3, 132, .inl rO)), (b34, .inl (g.2.1 0, 425984, .inl ((F_X12_found1 rD rK rM rS rA rB rF rT rW rO gN gR ka kb i lc pe ni h t o).2.1))), (b35, .inl (g.2.1 1, 7, .inl ((F_X12_found1 rD rK rM rS rA rB rF rT rW rO gN gR ka kb i lc pe ni h t o).2.2.1)))]) := by
  refine MetI.of (own := RX12) rfl (by decide) (Nat.le_of_ble_eq_true rfl) ?_
  intro p e s m below meth c A ls args Q hQ X hr hin hW hl
  have hx := X.1
  have hb := X.2.1
  have hl : lv_has ls 11 [(0, .ref h0), (1, .int (nI i)), (2, .int (nI ni)), (3, .int (nI h)), (4, .int t), (5, .int (nI o))] := hl
  refine lv_aload_n (pc := 0) hx hb dX12_found_0 rfl (lv_at hl 0 rfl) ?_
  refine lv_iload_n (pc := 1) hx hb dX12_found_1 rfl (lv_at hl 1 rfl) ?_
  refine lv_iload_n (pc := 2) hx hb dX12_found_2 rfl (lv_at hl 2 rfl) ?_
  refine c_Vi (pc := 3) (As := [.int (nI i), .int (nI ni)]) (rest := []) (wr := [(b6, .inl (g.2.1 1, 11, .inl rP)), (b7, .inl (g.2.1 1, 11, .inl rL)), (b8, .inl (g.2.1 1, 11, .inl rD)), (b9, .inl (g.2.1 1, 44, .inl rK)), (b10, .inl (g.2.1 1, 44, .inl rM)), (b11, .inl (g.2.1 1, 44, .inl rS)), (b12, .inl (g.2.1 1, 132, .inl rA)), (b13, .inl (g.2.1 1, 132, .inl rB)), (b14, .inl (g.2.1 1, 132, .inl rF)), (b15, .inl (g.2.1 1, 132, .inl rT)), (b16, .inl (g.2.1 1, 132, .inl rW)), (b17, .inl (g.2.1 3, 132, .inl rO)), (b34, .inl (g.2.1 0, 425984, .inl gN)), (b35, .inl (g.2.1 1, 7, .inl gR))]) X hW 0 ciX12 rfl (K_X12_isAsked l g h0 vs nv (nI i) (nI ni) hlen h18_ (by omega)) vX12_315 [0] [1, 2, 3, 4, 5, 6, 7, 8, 9, 10, 11, 12, 13, 14] rfl rfl rfl rfl rfl rfl hl.1 rfl (Nat.le_of_ble_eq_true rfl) ⟨Nat.le_of_ble_eq_true rfl, Nat.le_of_ble_eq_true rfl⟩ ⟨Nat.le_of_ble_eq_true rfl, Nat.le_of_ble_eq_true rfl⟩ dX12_found_3 (fun r1 u9 H locs hq hW => ?_)
  obtain ⟨rfl, rfl⟩ := hq
  have hW : WD g A s _ _ [(b6, .inl (g.2.1 1, 11, .inl rP)), (b7, .inl (g.2.1 1, 11, .inl rL)), (b8, .inl (g.2.1 1, 11, .inl rD)), (b9, .inl (g.2.1 1, 44, .inl rK)), (b10, .inl (g.2.1 1, 44, .inl rM)), (b11, .inl (g.2.1 1, 44, .inl rS)), (b12, .inl (g.2.1 1, 132, .inl rA)), (b13, .inl (g.2.1 1, 132, .inl rB)), (b14, .inl (g.2.1 1, 132, .inl rF)), (b15, .inl (g.2.1 1, 132, .inl rT)), (b16, .inl (g.2.1 1, 132, .inl rW)), (b17, .inl (g.2.1 3, 132, .inl rO)), (b34, .inl (g.2.1 0, 425984, .inl gN)), (b35, .inl (g.2.1 1, 7, .inl gR)), (h0, .inr (12, (vs.set 0 (.int 0))))] := hW
  refine lv_if_eq (tgt := 26) (pc := 6) hx hb dX12_found_6 rfl (fun c2 => absurd c2 (ask_ok hn hv hni)) (fun c2 => ?_)
  refine lv_iload_n (pc := 9) hx hb dX12_found_9 rfl (lv_at hl 3 rfl) ?_
  refine c_Si (pc := 10) (As := [.int (nI h)]) (rest := []) (wr := [(b6, .inl (g.2.1 1, 11, .inl rP)), (b7, .inl (g.2.1 1, 11, .inl rL)), (b8, .inl (g.2.1 1, 11, .inl rD)), (b9, .inl (g.2.1 1, 44, .inl rK)), (b10, .inl (g.2.1 1, 44, .inl rM)), (b11, .inl (g.2.1 1, 44, .inl rS)), (b12, .inl (g.2.1 1, 132, .inl rA)), (b13, .inl (g.2.1 1, 132, .inl rB)), (b14, .inl (g.2.1 1, 132, .inl rF)), (b15, .inl (g.2.1 1, 132, .inl rT)), (b16, .inl (g.2.1 1, 132, .inl rW)), (b17, .inl (g.2.1 3, 132, .inl rO)), (b34, .inl (g.2.1 0, 425984, .inl gN)), (b35, .inl (g.2.1 1, 7, .inl gR)), (h0, .inr (12, (vs.set 0 (.int 0))))]) X hW (K_X12_isHour l g (nI h)) vX12_228 [] [0, 1, 2, 3, 4, 5, 6, 7, 8, 9, 10, 11, 12, 13, 14] rfl rfl rfl rfl rfl rfl hl.1 rfl (Nat.le_of_ble_eq_true rfl) ⟨Nat.le_of_ble_eq_true rfl, Nat.le_of_ble_eq_true rfl⟩ ⟨Nat.le_of_ble_eq_true rfl, Nat.le_of_ble_eq_true rfl⟩ dX12_found_10 (fun r3 u9 H locs hq hW => ?_)
  obtain ⟨rfl, rfl⟩ := hq
  have hW : WD g A s _ _ [(b6, .inl (g.2.1 1, 11, .inl rP)), (b7, .inl (g.2.1 1, 11, .inl rL)), (b8, .inl (g.2.1 1, 11, .inl rD)), (b9, .inl (g.2.1 1, 44, .inl rK)), (b10, .inl (g.2.1 1, 44, .inl rM)), (b11, .inl (g.2.1 1, 44, .inl rS)), (b12, .inl (g.2.1 1, 132, .inl rA)), (b13, .inl (g.2.1 1, 132, .inl rB)), (b14, .inl (g.2.1 1, 132, .inl rF)), (b15, .inl (g.2.1 1, 132, .inl rT)), (b16, .inl (g.2.1 1, 132, .inl rW)), (b17, .inl (g.2.1 3, 132, .inl rO)), (b34, .inl (g.2.1 0, 425984, .inl gN)), (b35, .inl (g.2.1 1, 7, .inl gR)), (h0, .inr (12, (vs.set 0 (.int 0))))] := hW
  refine lv_if_eq (tgt := 26) (pc := 13) hx hb dX12_found_13 rfl (fun c4 => absurd c4 (hour_ok hh1 hh2)) (fun c4 => ?_)
  refine lv_aload_n (pc := 16) hx hb dX12_found_16 rfl (lv_at hl 0 rfl) ?_
  refine lv_iload_n (pc := 17) hx hb dX12_found_17 rfl (lv_at hl 1 rfl) ?_
  refine lv_iload (pc := 18) hx hb dX12_found_18 (lv_at hl 5 rfl) ?_
  refine c_Vi (pc := 20) (As := [.int (nI i), .int (nI o)]) (rest := []) (wr := [(b7, .inl (g.2.1 1, 11, .inl rL)), (b8, .inl (g.2.1 1, 11, .inl rD)), (b9, .inl (g.2.1 1, 44, .inl rK)), (b10, .inl (g.2.1 1, 44, .inl rM)), (b11, .inl (g.2.1 1, 44, .inl rS)), (b12, .inl (g.2.1 1, 132, .inl rA)), (b13, .inl (g.2.1 1, 132, .inl rB)), (b14, .inl (g.2.1 1, 132, .inl rF)), (b15, .inl (g.2.1 1, 132, .inl rT)), (b16, .inl (g.2.1 1, 132, .inl rW)), (b17, .inl (g.2.1 3, 132, .inl rO)), (b34, .inl (g.2.1 0, 425984, .inl gN)), (b35, .inl (g.2.1 1, 7, .inl gR))]) X hW 14 ciX12 rfl (K_X12_isPerson l g h0 (vs.set 0 (.int 0)) b6 rP i (nI o) (sv_len hlen) (sv_ne (k := 0) (by decide) h6_) (by omega)) vX12_237 [14, 0] [1, 2, 3, 4, 5, 6, 7, 8, 9, 10, 11, 12, 13] rfl rfl rfl rfl rfl rfl hl.1 rfl (Nat.le_of_ble_eq_true rfl) ⟨Nat.le_of_ble_eq_true rfl, Nat.le_of_ble_eq_true rfl⟩ ⟨Nat.le_of_ble_eq_true rfl, Nat.le_of_ble_eq_true rfl⟩ dX12_found_20 (fun r5 u9 H locs hq hW => ?_)
  obtain ⟨rfl, rfl⟩ := hq
  have hW : WD g A s _ _ [(b7, .inl (g.2.1 1, 11, .inl rL)), (b8, .inl (g.2.1 1, 11, .inl rD)), (b9, .inl (g.2.1 1, 44, .inl rK)), (b10, .inl (g.2.1 1, 44, .inl rM)), (b11, .inl (g.2.1 1, 44, .inl rS)), (b12, .inl (g.2.1 1, 132, .inl rA)), (b13, .inl (g.2.1 1, 132, .inl rB)), (b14, .inl (g.2.1 1, 132, .inl rF)), (b15, .inl (g.2.1 1, 132, .inl rT)), (b16, .inl (g.2.1 1, 132, .inl rW)), (b17, .inl (g.2.1 3, 132, .inl rO)), (b34, .inl (g.2.1 0, 425984, .inl gN)), (b35, .inl (g.2.1 1, 7, .inl gR)), (h0, .inr (12, (vs.set 0 (.int 0)))), (b6, .inl (g.2.1 1, 11, .inl rP))] := hW
  refine lv_if_ne (tgt := 28) (pc := 23) hx hb dX12_found_23 rfl (fun c6 => ?_) (fun c6 => absurd c6 (per_ok hpe hP ho))
  refine lv_aload_n (pc := 28) hx hb dX12_found_28 rfl (lv_at hl 0 rfl) ?_
  refine lv_iload_n (pc := 29) hx hb dX12_found_29 rfl (lv_at hl 1 rfl) ?_
  refine lv_iload_n (pc := 30) hx hb dX12_found_30 rfl (lv_at hl 2 rfl) ?_
  refine lv_iload_n (pc := 31) hx hb dX12_found_31 rfl (lv_at hl 3 rfl) ?_
  refine c_Vi (pc := 32) (As := [.int (nI i), .int (nI ni), .int (nI h)]) (rest := []) (wr := [(b35, .inl (g.2.1 1, 7, .inl gR))]) X hW 13 ciX12 rfl (K_X12_leastFrom l g h0 (vs.set 0 (.int 0)) b6 rP b7 rL b8 rD b9 rK b10 rM b11 rS b12 rA b13 rB b14 rF b15 rT b16 rW b17 rO b34 gN i lc pe ni h (sv_len hlen) (sv_ne (k := 0) (by decide) h6_) (sv_ne (k := 0) (by decide) h7_) (sv_ne (k := 0) (by decide) h8_) (sv_ne (k := 0) (by decide) h9_) (sv_ne (k := 0) (by decide) h10_) (sv_ne (k := 0) (by decide) h11_) (sv_ne (k := 0) (by decide) h12_) (sv_ne (k := 0) (by decide) h13_) (sv_ne (k := 0) (by decide) h14_) (sv_ne (k := 0) (by decide) h15_) (sv_ne (k := 0) (by decide) h16_) (sv_ne (k := 0) (by decide) h17_) (sv_ne (k := 0) (by decide) h34_) (by omega) hlc hL hpe hP (sv_ne (k := 0) (by decide) h19_) (sv_ne (k := 0) (by decide) h20_) hni hh1 hh2 hkn) vX12_318 [13, 14, 0, 1, 2, 3, 4, 5, 6, 7, 8, 9, 10, 11] [12] rfl rfl rfl rfl rfl rfl hl.1 rfl (Nat.le_of_ble_eq_true rfl) ⟨Nat.le_of_ble_eq_true rfl, Nat.le_of_ble_eq_true rfl⟩ ⟨Nat.le_of_ble_eq_true rfl, Nat.le_of_ble_eq_true rfl⟩ dX12_found_32 (fun r7 u9 H locs hq hW => ?_)
  obtain ⟨rfl, rfl⟩ := hq
  have hW : WD g A s _ _ [(b35, .inl (g.2.1 1, 7, .inl gR)), (h0, .inr (12, ((((vs.set 0 (.int 0)).set 37 (.int (nI i))).set 38 (.int (rM (4 * i + ni)))).set 39 (.int (rS (4 * i + ni)))))), (b6, .inl (g.2.1 1, 11, .inl rP)), (b7, .inl (g.2.1 1, 11, .inl rL)), (b8, .inl (g.2.1 1, 11, .inl rD)), (b9, .inl (g.2.1 1, 44, .inl rK)), (b10, .inl (g.2.1 1, 44, .inl rM)), (b11, .inl (g.2.1 1, 44, .inl rS)), (b12, .inl (g.2.1 1, 132, .inl rA)), (b13, .inl (g.2.1 1, 132, .inl rB)), (b14, .inl (g.2.1 1, 132, .inl rF)), (b15, .inl (g.2.1 1, 132, .inl rT)), (b16, .inl (g.2.1 1, 132, .inl rW)), (b17, .inl (g.2.1 3, 132, .inl rO)), (b34, .inl (g.2.1 0, 425984, .inl ((F_X12_leastFrom rD rK rM rS rA rB rF rT rW rO gN i lc pe ni h).2)))] := hW
  refine lv_istore (lv' := [(6, .int ((F_X12_leastFrom rD rK rM rS rA rB rF rT rW rO gN i lc pe ni h).1)), (0, .ref h0), (1, .int (nI i)), (2, .int (nI ni)), (3, .int (nI h)), (4, .int t), (5, .int (nI o))]) (pc := 35) hx hb dX12_found_35 hl (by decide) rfl (fun ls hl => ?_)
  rw [← pin_self (i := 44) (j := 45) (sv_ne (k := 39) (by decide) (sv_ne (k := 38) (by decide) (sv_ne (k := 37) (by decide) (sv_ne (k := 0) (by decide) h44_)))) (sv_ne (k := 39) (by decide) (sv_ne (k := 38) (by decide) (sv_ne (k := 37) (by decide) (sv_ne (k := 0) (by decide) h45_))))] at hW
  refine lv_iload (pc := 37) hx hb dX12_found_37 (lv_at hl 0 rfl) ?_
  refine lv_bipush (v := 99) (pc := 39) hx hb dX12_found_39 (by decide) ?_
  refine lv_icmp_eq (tgt := 57) (pc := 41) hx hb dX12_found_41 rfl (fun c8 => ?_) (fun c8 => ?_)
  · refine lv_iconst (v := (-1)) (pc := 57) hx hb dX12_found_57 (by decide) ?_
    have hF : F_X12_found1 rD rK rM rS rA rB rF rT rW rO gN gR ka kb i lc pe ni h t o = ((-1 : Int32), ((F_X12_leastFrom rD rK rM rS rA rB rF rT rW rO gN i lc pe ni h).2), gR, ka, kb) := show F_X12_found1 rD rK rM rS rA rB rF rT rW rO gN gR ka kb i lc pe ni h t o = ((-1 : Int32), ((F_X12_leastFrom rD rK rM rS rA rB rF rT rW rO gN i lc pe ni h).2), gR, ka, kb) from by rw [F_X12_found1, if_pos c8]
    exact e_i (u := [(h0, .inr (12, ((((((vs.set 0 (.int 0)).set 37 (.int (nI i))).set 38 (.int (rM (4 * i + ni)))).set 39 (.int (rS (4 * i + ni)))).set 44 (.int ka)).set 45 (.int kb)))), (b6, .inl (g.2.1 1, 11, .inl rP)), (b7, .inl (g.2.1 1, 11, .inl rL)), (b8, .inl (g.2.1 1, 11, .inl rD)), (b9, .inl (g.2.1 1, 44, .inl rK)), (b10, .inl (g.2.1 1, 44, .inl rM)), (b11, .inl (g.2.1 1, 44, .inl rS)), (b12, .inl (g.2.1 1, 132, .inl rA)), (b13, .inl (g.2.1 1, 132, .inl rB)), (b14, .inl (g.2.1 1, 132, .inl rF)), (b15, .inl (g.2.1 1, 132, .inl rT)), (b16, .inl (g.2.1 1, 132, .inl rW)), (b17, .inl (g.2.1 3, 132, .inl rO)), (b34, .inl (g.2.1 0, 425984, .inl ((F_X12_leastFrom rD rK rM rS rA rB rF rT rW rO gN i lc pe ni h).2))), (b35, .inl (g.2.1 1, 7, .inl gR))]) X hQ hr (hW) [1, 2, 3, 4, 5, 6, 7, 8, 9, 10, 11, 12, 13, 14, 0] rfl rfl (⟨(congrArg Prod.fst hF).symm, by rw [hF]⟩) ⟨Nat.le_of_ble_eq_true rfl, Nat.le_of_ble_eq_true rfl⟩ dX12_found_58
  · have hv2 := hval.resolve_left c8
    refine lv_iload (pc := 44) hx hb dX12_found_44 (lv_at hl 5 rfl) ?_
    refine lv_iconst (v := 0) (pc := 46) hx hb dX12_found_46 (by decide) ?_
    refine lv_iload (pc := 47) hx hb dX12_found_47 (lv_at hl 0 rfl) ?_
    refine lv_iconst (v := 1) (pc := 49) hx hb dX12_found_49 (by decide) ?_
    refine lv_isub (pc := 50) hx hb dX12_found_50 ?_
    refine c_Si (pc := 51) (As := [.int t, .int 0, .int (((F_X12_leastFrom rD rK rM rS rA rB rF rT rW rO gN i lc pe ni h).1) - (1 : Int32))]) (rest := []) (wr := [(b35, .inl (g.2.1 1, 7, .inl gR)), (h0, .inr (12, ((((((vs.set 0 (.int 0)).set 37 (.int (nI i))).set 38 (.int (rM (4 * i + ni)))).set 39 (.int (rS (4 * i + ni)))).set 44 (.int ka)).set 45 (.int kb)))), (b6, .inl (g.2.1 1, 11, .inl rP)), (b7, .inl (g.2.1 1, 11, .inl rL)), (b8, .inl (g.2.1 1, 11, .inl rD)), (b9, .inl (g.2.1 1, 44, .inl rK)), (b10, .inl (g.2.1 1, 44, .inl rM)), (b11, .inl (g.2.1 1, 44, .inl rS)), (b12, .inl (g.2.1 1, 132, .inl rA)), (b13, .inl (g.2.1 1, 132, .inl rB)), (b14, .inl (g.2.1 1, 132, .inl rF)), (b15, .inl (g.2.1 1, 132, .inl rT)), (b16, .inl (g.2.1 1, 132, .inl rW)), (b17, .inl (g.2.1 3, 132, .inl rO)), (b34, .inl (g.2.1 0, 425984, .inl ((F_X12_leastFrom rD rK rM rS rA rB rF rT rW rO gN i lc pe ni h).2)))]) X hW (K_X12_isIn l g t (0 : Int32) (((F_X12_leastFrom rD rK rM rS rA rB rF rT rW rO gN i lc pe ni h).1) - (1 : Int32))) vX12_198 [] [0, 1, 2, 3, 4, 5, 6, 7, 8, 9, 10, 11, 12, 13, 14] rfl rfl rfl rfl rfl rfl hl.1 rfl (Nat.le_of_ble_eq_true rfl) ⟨Nat.le_of_ble_eq_true rfl, Nat.le_of_ble_eq_true rfl⟩ ⟨Nat.le_of_ble_eq_true rfl, Nat.le_of_ble_eq_true rfl⟩ dX12_found_51 (fun r11 u9 H locs hq hW => ?_)
    obtain ⟨rfl, rfl⟩ := hq
    have hW : WD g A s _ _ [(b35, .inl (g.2.1 1, 7, .inl gR)), (h0, .inr (12, ((((((vs.set 0 (.int 0)).set 37 (.int (nI i))).set 38 (.int (rM (4 * i + ni)))).set 39 (.int (rS (4 * i + ni)))).set 44 (.int ka)).set 45 (.int kb)))), (b6, .inl (g.2.1 1, 11, .inl rP)), (b7, .inl (g.2.1 1, 11, .inl rL)), (b8, .inl (g.2.1 1, 11, .inl rD)), (b9, .inl (g.2.1 1, 44, .inl rK)), (b10, .inl (g.2.1 1, 44, .inl rM)), (b11, .inl (g.2.1 1, 44, .inl rS)), (b12, .inl (g.2.1 1, 132, .inl rA)), (b13, .inl (g.2.1 1, 132, .inl rB)), (b14, .inl (g.2.1 1, 132, .inl rF)), (b15, .inl (g.2.1 1, 132, .inl rT)), (b16, .inl (g.2.1 1, 132, .inl rW)), (b17, .inl (g.2.1 3, 132, .inl rO)), (b34, .inl (g.2.1 0, 425984, .inl ((F_X12_leastFrom rD rK rM rS rA rB rF rT rW rO gN i lc pe ni h).2)))] := hW
    refine lv_if_ne (tgt := 59) (pc := 54) hx hb dX12_found_54 rfl (fun c12 => ?_) (fun c12 => ?_)
    · have hv3 := i0n_at ⟨hv2.1, (by omega)⟩ c12
      have hv4 := hv3.2.2
      have hv5 := hv3.1
      have hv6 := hv2.2
      rw [hv2.1, hv3.2.1] at hl
      refine lv_aload_n (pc := 59) hx hb dX12_found_59 rfl (lv_at hl 1 rfl) ?_
      refine r_get X hW 1 ciX12 9 rfl (by decide) m_1240 rfl (sv_ne (k := 45) (by decide) (sv_ne (k := 44) (by decide) (sv_ne (k := 39) (by decide) (sv_ne (k := 38) (by decide) (sv_ne (k := 37) (by decide) (sv_ne (k := 0) (by decide) h9_)))))) dX12_found_60 ?_
      refine lv_iconst (v := 4) (pc := 63) hx hb dX12_found_63 (by decide) ?_
      refine lv_iload_n (pc := 64) hx hb dX12_found_64 rfl (lv_at hl 2 rfl) ?_
      refine lv_imul (pc := 65) hx hb dX12_found_65 ?_
      refine lv_topi (fun v14 ev14 => ?_)
      obtain rfl : v14 = nI (4 * i) := ev14.trans (pk_mul 4 i)
      refine lv_iload_n (pc := 66) hx hb dX12_found_66 rfl (lv_at hl 3 rfl) ?_
      refine lv_iadd (pc := 67) hx hb dX12_found_67 ?_
      refine lv_topi (fun v15 ev15 => ?_)
      obtain rfl : v15 = nI (4 * i + ni) := ev15.trans (nI_add _ _)
      refine r_iald X hW 5 rfl (vp_in_nI (by omega) (by decide)) dX12_found_68 ?_
      refine lv_topi (fun v16 ev16 => ?_)
      obtain rfl : v16 = rK (4 * i + ni) := ev16.trans (by rw [nI_clamp (by omega)])
      refine lv_istore (lv' := [(7, .int (rK (4 * i + ni))), (6, .int (nI (tN (F_X12_leastFrom rD rK rM rS rA rB rF rT rW rO gN i lc pe ni h).1))), (0, .ref h0), (1, .int (nI i)), (2, .int (nI ni)), (3, .int (nI h)), (4, .int (nI (tN t))), (5, .int (nI o))]) (pc := 69) hx hb dX12_found_69 hl (by decide) rfl (fun ls hl => ?_)
      refine lv_iconst (v := 0) (pc := 71) hx hb dX12_found_71 (by decide) ?_
      refine lv_istore (lv' := [(8, .int 0), (7, .int (rK (4 * i + ni))), (6, .int (nI (tN (F_X12_leastFrom rD rK rM rS rA rB rF rT rW rO gN i lc pe ni h).1))), (0, .ref h0), (1, .int (nI i)), (2, .int (nI ni)), (3, .int (nI h)), (4, .int (nI (tN t))), (5, .int (nI o))]) (pc := 72) hx hb dX12_found_72 hl (by decide) rfl (fun ls hl => ?_)
      refine lv_iconst (v := 0) (pc := 74) hx hb dX12_found_74 (by decide) ?_
      refine lv_istore (lv' := [(9, .int 0), (8, .int 0), (7, .int (rK (4 * i + ni))), (6, .int (nI (tN (F_X12_leastFrom rD rK rM rS rA rB rF rT rW rO gN i lc pe ni h).1))), (0, .ref h0), (1, .int (nI i)), (2, .int (nI ni)), (3, .int (nI h)), (4, .int (nI (tN t))), (5, .int (nI o))]) (pc := 75) hx hb dX12_found_75 hl (by decide) rfl (fun ls hl => ?_)
      have loop1 : ∀ (fu1 : Nat) (j1 : Nat) (x8_1 : Int32) (x7_1 : Int32) (fb34_1 : Nat → Int32) (fb35_1 : Nat → Int32) (y44_1 : Int32) (y45_1 : Int32), ((tN t + 1) < fu1 + j1) → (j1 ≤ (tN t + 1)) → (s7 x7_1) → (s7 x8_1) → ((x8_1, x7_1, fb34_1, fb35_1, y44_1, y45_1) = L1_X12_found1 rD rK rM rS rA rB rF rT rW rO gN i lc pe ni h (0 : Int32) (rK (4 * i + ni)) ((F_X12_leastFrom rD rK rM rS rA rB rF rT rW rO gN i lc pe ni h).2) gR ka kb j1) → ∀ (H : Heap) (locs : List Loc) (ls : Array Slot), WD g A s H locs [(b35, .inl (g.2.1 1, 7, .inl fb35_1)), (h0, .inr (12, ((((((vs.set 0 (.int 0)).set 37 (.int (nI i))).set 38 (.int (rM (4 * i + ni)))).set 39 (.int (rS (4 * i + ni)))).set 44 (.int y44_1)).set 45 (.int y45_1)))), (b6, .inl (g.2.1 1, 11, .inl rP)), (b7, .inl (g.2.1 1, 11, .inl rL)), (b8, .inl (g.2.1 1, 11, .inl rD)), (b9, .inl (g.2.1 1, 44, .inl rK)), (b10, .inl (g.2.1 1, 44, .inl rM)), (b11, .inl (g.2.1 1, 44, .inl rS)), (b12, .inl (g.2.1 1, 132, .inl rA)), (b13, .inl (g.2.1 1, 132, .inl rB)), (b14, .inl (g.2.1 1, 132, .inl rF)), (b15, .inl (g.2.1 1, 132, .inl rT)), (b16, .inl (g.2.1 1, 132, .inl rW)), (b17, .inl (g.2.1 3, 132, .inl rO)), (b34, .inl (g.2.1 0, 425984, .inl fb34_1))] → lv_has ls 11 [(9, .int (nI j1)), (8, .int x8_1), (7, .int x7_1), (6, .int (nI (tN (F_X12_leastFrom rD rK rM rS rA rB rF rT rW rO gN i lc pe ni h).1))), (0, .ref h0), (1, .int (nI i)), (2, .int (nI ni)), (3, .int (nI h)), (4, .int (nI (tN t))), (5, .int (nI o))] → W p l e (RM 242 0 0) s m args below meth c H locs 0 0 Q (F0 m 77 ls []) := by
        intro fu1
        induction fu1 with
        | zero =>
          intro j1 x8_1 x7_1 fb34_1 fb35_1 y44_1 y45_1 hm1 hj1 hk7 hk8 hst1
          exact absurd hm1 (by omega)
        | succ fu1 ih1 =>
          intro j1 x8_1 x7_1 fb34_1 fb35_1 y44_1 y45_1 hm1 hj1 hk7 hk8 hst1 H locs ls hW hl
          refine lv_iload (pc := 77) hx hb dX12_found_77 (lv_at hl 0 rfl) ?_
          refine lv_iload (pc := 79) hx hb dX12_found_79 (lv_at hl 8 rfl) ?_
          refine lv_icmp_gt (tgt := 126) (pc := 81) hx hb dX12_found_81 rfl (fun c17 => ?_) (fun c17 => ?_)
          · have h18 : (tN t) < j1 := (nI_ltI (a := (tN t)) (b := j1) (by omega) (by omega)).mp c17
            have hN1 : j1 = (tN t + 1) := by omega
            rw [hN1] at hst1
            have hs1_0 : (L1_X12_found1 rD rK rM rS rA rB rF rT rW rO gN i lc pe ni h (0 : Int32) (rK (4 * i + ni)) ((F_X12_leastFrom rD rK rM rS rA rB rF rT rW rO gN i lc pe ni h).2) gR ka kb (tN t + 1)).1 = x8_1 := (congrArg (fun z => z.1) hst1).symm
            have hs1_1 : (L1_X12_found1 rD rK rM rS rA rB rF rT rW rO gN i lc pe ni h (0 : Int32) (rK (4 * i + ni)) ((F_X12_leastFrom rD rK rM rS rA rB rF rT rW rO gN i lc pe ni h).2) gR ka kb (tN t + 1)).2.1 = x7_1 := (congrArg (fun z => z.2.1) hst1).symm
            have hs1_2 : (L1_X12_found1 rD rK rM rS rA rB rF rT rW rO gN i lc pe ni h (0 : Int32) (rK (4 * i + ni)) ((F_X12_leastFrom rD rK rM rS rA rB rF rT rW rO gN i lc pe ni h).2) gR ka kb (tN t + 1)).2.2.1 = fb34_1 := (congrArg (fun z => z.2.2.1) hst1).symm
            have hs1_3 : (L1_X12_found1 rD rK rM rS rA rB rF rT rW rO gN i lc pe ni h (0 : Int32) (rK (4 * i + ni)) ((F_X12_leastFrom rD rK rM rS rA rB rF rT rW rO gN i lc pe ni h).2) gR ka kb (tN t + 1)).2.2.2.1 = fb35_1 := (congrArg (fun z => z.2.2.2.1) hst1).symm
            have hs1_4 : (L1_X12_found1 rD rK rM rS rA rB rF rT rW rO gN i lc pe ni h (0 : Int32) (rK (4 * i + ni)) ((F_X12_leastFrom rD rK rM rS rA rB rF rT rW rO gN i lc pe ni h).2) gR ka kb (tN t + 1)).2.2.2.2.1 = y44_1 := (congrArg (fun z => z.2.2.2.2.1) hst1).symm
            have hs1_5 : (L1_X12_found1 rD rK rM rS rA rB rF rT rW rO gN i lc pe ni h (0 : Int32) (rK (4 * i + ni)) ((F_X12_leastFrom rD rK rM rS rA rB rF rT rW rO gN i lc pe ni h).2) gR ka kb (tN t + 1)).2.2.2.2.2 = y45_1 := (congrArg (fun z => z.2.2.2.2.2) hst1).symm
            clear hst1
            subst hs1_0
            subst hs1_1
            subst hs1_2
            subst hs1_3
            subst hs1_4
            subst hs1_5
            have hW : WD g A s _ _ [(b35, .inl (g.2.1 1, 7, .inl ((L1_X12_found1 rD rK rM rS rA rB rF rT rW rO gN i lc pe ni h (0 : Int32) (rK (4 * i + ni)) ((F_X12_leastFrom rD rK rM rS rA rB rF rT rW rO gN i lc pe ni h).2) gR ka kb (tN t + 1)).2.2.2.1))), (h0, .inr (12, ((((((vs.set 0 (.int 0)).set 37 (.int (nI i))).set 38 (.int (rM (4 * i + ni)))).set 39 (.int (rS (4 * i + ni)))).set 44 (.int ((L1_X12_found1 rD rK rM rS rA rB rF rT rW rO gN i lc pe ni h (0 : Int32) (rK (4 * i + ni)) ((F_X12_leastFrom rD rK rM rS rA rB rF rT rW rO gN i lc pe ni h).2) gR ka kb (tN t + 1)).2.2.2.2.1))).set 45 (.int ((L1_X12_found1 rD rK rM rS rA rB rF rT rW rO gN i lc pe ni h (0 : Int32) (rK (4 * i + ni)) ((F_X12_leastFrom rD rK rM rS rA rB rF rT rW rO gN i lc pe ni h).2) gR ka kb (tN t + 1)).2.2.2.2.2))))), (b6, .inl (g.2.1 1, 11, .inl rP)), (b7, .inl (g.2.1 1, 11, .inl rL)), (b8, .inl (g.2.1 1, 11, .inl rD)), (b9, .inl (g.2.1 1, 44, .inl rK)), (b10, .inl (g.2.1 1, 44, .inl rM)), (b11, .inl (g.2.1 1, 44, .inl rS)), (b12, .inl (g.2.1 1, 132, .inl rA)), (b13, .inl (g.2.1 1, 132, .inl rB)), (b14, .inl (g.2.1 1, 132, .inl rF)), (b15, .inl (g.2.1 1, 132, .inl rT)), (b16, .inl (g.2.1 1, 132, .inl rW)), (b17, .inl (g.2.1 3, 132, .inl rO)), (b34, .inl (g.2.1 0, 425984, .inl ((L1_X12_found1 rD rK rM rS rA rB rF rT rW rO gN i lc pe ni h (0 : Int32) (rK (4 * i + ni)) ((F_X12_leastFrom rD rK rM rS rA rB rF rT rW rO gN i lc pe ni h).2) gR ka kb (tN t + 1)).2.2.1)))] := hW
            refine lv_aload_n (pc := 126) hx hb dX12_found_126 rfl (lv_at hl 4 rfl) ?_
            refine r_get X hW 1 ciX12 35 rfl (by decide) m_1266 rfl (sv_ne (k := 45) (by decide) (sv_ne (k := 44) (by decide) (sv_ne (k := 39) (by decide) (sv_ne (k := 38) (by decide) (sv_ne (k := 37) (by decide) (sv_ne (k := 0) (by decide) h35_)))))) dX12_found_127 ?_
            refine lv_iload (pc := 130) hx hb dX12_found_130 (lv_at hl 9 rfl) ?_
            refine r_iald X hW 0 rfl (vp_in_nI (by omega) (by decide)) dX12_found_132 ?_
            refine lv_topi (fun v19 ev19 => ?_)
            obtain rfl : v19 = ((L1_X12_found1 rD rK rM rS rA rB rF rT rW rO gN i lc pe ni h (0 : Int32) (rK (4 * i + ni)) ((F_X12_leastFrom rD rK rM rS rA rB rF rT rW rO gN i lc pe ni h).2) gR ka kb (tN t + 1)).2.2.2.1) o := ev19.trans (by rw [nI_clamp (by omega)])
            have hF : F_X12_found1 rD rK rM rS rA rB rF rT rW rO gN gR ka kb i lc pe ni h t o = (((L1_X12_found1 rD rK rM rS rA rB rF rT rW rO gN i lc pe ni h (0 : Int32) (rK (4 * i + ni)) ((F_X12_leastFrom rD rK rM rS rA rB rF rT rW rO gN i lc pe ni h).2) gR ka kb (tN t + 1)).2.2.2.1) o, ((L1_X12_found1 rD rK rM rS rA rB rF rT rW rO gN i lc pe ni h (0 : Int32) (rK (4 * i + ni)) ((F_X12_leastFrom rD rK rM rS rA rB rF rT rW rO gN i lc pe ni h).2) gR ka kb (tN t + 1)).2.2.1), ((L1_X12_found1 rD rK rM rS rA rB rF rT rW rO gN i lc pe ni h (0 : Int32) (rK (4 * i + ni)) ((F_X12_leastFrom rD rK rM rS rA rB rF rT rW rO gN i lc pe ni h).2) gR ka kb (tN t + 1)).2.2.2.1), ((L1_X12_found1 rD rK rM rS rA rB rF rT rW rO gN i lc pe ni h (0 : Int32) (rK (4 * i + ni)) ((F_X12_leastFrom rD rK rM rS rA rB rF rT rW rO gN i lc pe ni h).2) gR ka kb (tN t + 1)).2.2.2.2.1), ((L1_X12_found1 rD rK rM rS rA rB rF rT rW rO gN i lc pe ni h (0 : Int32) (rK (4 * i + ni)) ((F_X12_leastFrom rD rK rM rS rA rB rF rT rW rO gN i lc pe ni h).2) gR ka kb (tN t + 1)).2.2.2.2.2)) := show F_X12_found1 rD rK rM rS rA rB rF rT rW rO gN gR ka kb i lc pe ni h t o = (((L1_X12_found1 rD rK rM rS rA rB rF rT rW rO gN i lc pe ni h (0 : Int32) (rK (4 * i + ni)) ((F_X12_leastFrom rD rK rM rS rA rB rF rT rW rO gN i lc pe ni h).2) gR ka kb (tN t + 1)).2.2.2.1) o, ((L1_X12_found1 rD rK rM rS rA rB rF rT rW rO gN i lc pe ni h (0 : Int32) (rK (4 * i + ni)) ((F_X12_leastFrom rD rK rM rS rA rB rF rT rW rO gN i lc pe ni h).2) gR ka kb (tN t + 1)).2.2.1), ((L1_X12_found1 rD rK rM rS rA rB rF rT rW rO gN i lc pe ni h (0 : Int32) (rK (4 * i + ni)) ((F_X12_leastFrom rD rK rM rS rA rB rF rT rW rO gN i lc pe ni h).2) gR ka kb (tN t + 1)).2.2.2.1), ((L1_X12_found1 rD rK rM rS rA rB rF rT rW rO gN i lc pe ni h (0 : Int32) (rK (4 * i + ni)) ((F_X12_leastFrom rD rK rM rS rA rB rF rT rW rO gN i lc pe ni h).2) gR ka kb (tN t + 1)).2.2.2.2.1), ((L1_X12_found1 rD rK rM rS rA rB rF rT rW rO gN i lc pe ni h (0 : Int32) (rK (4 * i + ni)) ((F_X12_leastFrom rD rK rM rS rA rB rF rT rW rO gN i lc pe ni h).2) gR ka kb (tN t + 1)).2.2.2.2.2)) from by rw [F_X12_found1, if_neg c8, if_neg c12]
            exact e_i (u := [(h0, .inr (12, ((((((vs.set 0 (.int 0)).set 37 (.int (nI i))).set 38 (.int (rM (4 * i + ni)))).set 39 (.int (rS (4 * i + ni)))).set 44 (.int ((L1_X12_found1 rD rK rM rS rA rB rF rT rW rO gN i lc pe ni h (0 : Int32) (rK (4 * i + ni)) ((F_X12_leastFrom rD rK rM rS rA rB rF rT rW rO gN i lc pe ni h).2) gR ka kb (tN t + 1)).2.2.2.2.1))).set 45 (.int ((L1_X12_found1 rD rK rM rS rA rB rF rT rW rO gN i lc pe ni h (0 : Int32) (rK (4 * i + ni)) ((F_X12_leastFrom rD rK rM rS rA rB rF rT rW rO gN i lc pe ni h).2) gR ka kb (tN t + 1)).2.2.2.2.2))))), (b6, .inl (g.2.1 1, 11, .inl rP)), (b7, .inl (g.2.1 1, 11, .inl rL)), (b8, .inl (g.2.1 1, 11, .inl rD)), (b9, .inl (g.2.1 1, 44, .inl rK)), (b10, .inl (g.2.1 1, 44, .inl rM)), (b11, .inl (g.2.1 1, 44, .inl rS)), (b12, .inl (g.2.1 1, 132, .inl rA)), (b13, .inl (g.2.1 1, 132, .inl rB)), (b14, .inl (g.2.1 1, 132, .inl rF)), (b15, .inl (g.2.1 1, 132, .inl rT)), (b16, .inl (g.2.1 1, 132, .inl rW)), (b17, .inl (g.2.1 3, 132, .inl rO)), (b34, .inl (g.2.1 0, 425984, .inl ((L1_X12_found1 rD rK rM rS rA rB rF rT rW rO gN i lc pe ni h (0 : Int32) (rK (4 * i + ni)) ((F_X12_leastFrom rD rK rM rS rA rB rF rT rW rO gN i lc pe ni h).2) gR ka kb (tN t + 1)).2.2.1))), (b35, .inl (g.2.1 1, 7, .inl ((L1_X12_found1 rD rK rM rS rA rB rF rT rW rO gN i lc pe ni h (0 : Int32) (rK (4 * i + ni)) ((F_X12_leastFrom rD rK rM rS rA rB rF rT rW rO gN i lc pe ni h).2) gR ka kb (tN t + 1)).2.2.2.1)))]) X hQ hr (hW) [1, 2, 3, 4, 5, 6, 7, 8, 9, 10, 11, 12, 13, 14, 0] rfl rfl (⟨(congrArg Prod.fst hF).symm, by rw [hF]⟩) ⟨Nat.le_of_ble_eq_true rfl, Nat.le_of_ble_eq_true rfl⟩ dX12_found_133
          · have h20 : ¬ ((tN t) < j1) := fun q => c17 ((nI_ltI (a := (tN t)) (b := j1) (by omega) (by omega)).mpr q)
            refine lv_aload_n (pc := 84) hx hb dX12_found_84 rfl (lv_at hl 4 rfl) ?_
            refine lv_iload_n (pc := 85) hx hb dX12_found_85 rfl (lv_at hl 7 rfl) ?_
            refine lv_iload (pc := 86) hx hb dX12_found_86 (lv_at hl 0 rfl) ?_
            refine lv_iadd (pc := 88) hx hb dX12_found_88 ?_
            refine lv_topi (fun v21 ev21 => ?_)
            obtain rfl : v21 = nI (h + j1) := ev21.trans (nI_add _ _)
            refine lv_iload (pc := 89) hx hb dX12_found_89 (lv_at hl 2 rfl) ?_
            refine lv_iload (pc := 91) hx hb dX12_found_91 (lv_at hl 1 rfl) ?_
            refine lv_iconst (v := 0) (pc := 93) hx hb dX12_found_93 (by decide) ?_
            refine lv_iconst (v := 0) (pc := 94) hx hb dX12_found_94 (by decide) ?_
            refine lv_iconst (v := 0) (pc := 95) hx hb dX12_found_95 (by decide) ?_
            refine lv_iload (pc := 96) hx hb dX12_found_96 (lv_at hl 3 rfl) ?_
            refine lv_iload (pc := 98) hx hb dX12_found_98 (lv_at hl 0 rfl) ?_
            refine lv_isub (pc := 100) hx hb dX12_found_100 ?_
            refine lv_topi (fun v22 ev22 => ?_)
            obtain rfl : v22 = nI (tN (F_X12_leastFrom rD rK rM rS rA rB rF rT rW rO gN i lc pe ni h).1 - j1) := ev22.trans (pk_sub (a := (tN (F_X12_leastFrom rD rK rM rS rA rB rF rT rW rO gN i lc pe ni h).1)) (b := j1) (by omega))
            refine lv_iconst (v := 1) (pc := 101) hx hb dX12_found_101 (by decide) ?_
            refine lv_isub (pc := 102) hx hb dX12_found_102 ?_
            refine lv_topi (fun v23 ev23 => ?_)
            obtain rfl : v23 = nI (tN (F_X12_leastFrom rD rK rM rS rA rB rF rT rW rO gN i lc pe ni h).1 - j1 - 1) := ev23.trans (pk_sub (a := (tN (F_X12_leastFrom rD rK rM rS rA rB rF rT rW rO gN i lc pe ni h).1 - j1)) (b := 1) (by omega))
            have hk9 := lw_7 (am := (rM (4 * i + ni))) (an := (rS (4 * i + ni))) (h := (h + j1)) (i := i) (kw := x7_1) (lc := lc) (lf := (nI (tN (F_X12_leastFrom rD rK rM rS rA rB rF rT rW rO gN i lc pe ni h).1 - j1 - 1))) (oz := x8_1) (pe := pe) (rA := rA) (rB := rB) (rD := rD) (rF := rF) (rO := rO) (rT := rT) (rW := rW) hk7 hk8 hpe pe 0 0 0 fb34_1 fb35_1 y44_1 y45_1 s7_0
            refine c_Vi (pc := 103) (As := [.int (nI (h + j1)), .int x7_1, .int x8_1, .int 0, .int 0, .int 0, .int (nI (tN (F_X12_leastFrom rD rK rM rS rA rB rF rT rW rO gN i lc pe ni h).1 - j1 - 1))]) (rest := []) (wr := [(b9, .inl (g.2.1 1, 44, .inl rK)), (b10, .inl (g.2.1 1, 44, .inl rM)), (b11, .inl (g.2.1 1, 44, .inl rS))]) X hW 1 ciX12 rfl (MetI.up (d' := 238) (K_lw l g h0 ((((vs.set 0 (.int 0)).set 37 (.int (nI i))).set 38 (.int (rM (4 * i + ni)))).set 39 (.int (rS (4 * i + ni)))) (rM (4 * i + ni)) (rS (4 * i + ni)) b6 rP b7 rL b8 rD b12 rA b13 rB b14 rF b15 rT b16 rW b17 rO b34 b35 i lc pe (h + j1) x7_1 x8_1 (nI (tN (F_X12_leastFrom rD rK rM rS rA rB rF rT rW rO gN i lc pe ni h).1 - j1 - 1)) (sv_len (sv_len (sv_len (sv_len hlen)))) (sv_ne (k := 39) (by decide) (sv_eq (k := 38) (n := 64) (by decide) (sv_len (sv_len hlen)))) (sv_eq (k := 39) (n := 64) (by decide) (sv_len (sv_len (sv_len hlen)))) (sv_ne (k := 39) (by decide) (sv_ne (k := 38) (by decide) (sv_ne (k := 37) (by decide) (sv_ne (k := 0) (by decide) h6_)))) (sv_ne (k := 39) (by decide) (sv_ne (k := 38) (by decide) (sv_ne (k := 37) (by decide) (sv_ne (k := 0) (by decide) h7_)))) (sv_ne (k := 39) (by decide) (sv_ne (k := 38) (by decide) (sv_ne (k := 37) (by decide) (sv_ne (k := 0) (by decide) h8_)))) (sv_ne (k := 39) (by decide) (sv_ne (k := 38) (by decide) (sv_ne (k := 37) (by decide) (sv_ne (k := 0) (by decide) h12_)))) (sv_ne (k := 39) (by decide) (sv_ne (k := 38) (by decide) (sv_ne (k := 37) (by decide) (sv_ne (k := 0) (by decide) h13_)))) (sv_ne (k := 39) (by decide) (sv_ne (k := 38) (by decide) (sv_ne (k := 37) (by decide) (sv_ne (k := 0) (by decide) h14_)))) (sv_ne (k := 39) (by decide) (sv_ne (k := 38) (by decide) (sv_ne (k := 37) (by decide) (sv_ne (k := 0) (by decide) h15_)))) (sv_ne (k := 39) (by decide) (sv_ne (k := 38) (by decide) (sv_ne (k := 37) (by decide) (sv_ne (k := 0) (by decide) h16_)))) (sv_ne (k := 39) (by decide) (sv_ne (k := 38) (by decide) (sv_ne (k := 37) (by decide) (sv_ne (k := 0) (by decide) h17_)))) (sv_ne (k := 39) (by decide) (sv_ne (k := 38) (by decide) (sv_ne (k := 37) (by decide) (sv_ne (k := 0) (by decide) h34_)))) (sv_ne (k := 39) (by decide) (sv_ne (k := 38) (by decide) (sv_ne (k := 37) (by decide) (sv_ne (k := 0) (by decide) h35_)))) (by omega) hlc hL hpe hP (sv_ne (k := 39) (by decide) (sv_ne (k := 38) (by decide) (sv_eq (k := 37) (n := 64) (by decide) (sv_len hlen)))) (sv_ne (k := 39) (by decide) (sv_ne (k := 38) (by decide) (sv_ne (k := 37) (by decide) (sv_ne (k := 0) (by decide) h19_)))) (sv_ne (k := 39) (by decide) (sv_ne (k := 38) (by decide) (sv_ne (k := 37) (by decide) (sv_ne (k := 0) (by decide) h20_)))) (by omega) hk7 hk8 pe 0 (by omega) fb34_1 fb35_1 y44_1 y45_1 0 0 s7_0) (by omega)) vX12_327 [1, 2, 3, 4, 8, 9, 10, 11, 12, 13, 14, 0] [5, 6, 7] rfl rfl rfl rfl rfl rfl hl.1 rfl (Nat.le_of_ble_eq_true rfl) ⟨Nat.le_of_ble_eq_true rfl, Nat.le_of_ble_eq_true rfl⟩ ⟨Nat.le_of_ble_eq_true rfl, Nat.le_of_ble_eq_true rfl⟩ dX12_found_103 (fun r24 u9 H locs hq hW => ?_)
            obtain ⟨rfl, rfl⟩ := hq
            have hW : WD g A s _ _ [(b9, .inl (g.2.1 1, 44, .inl rK)), (b10, .inl (g.2.1 1, 44, .inl rM)), (b11, .inl (g.2.1 1, 44, .inl rS)), (h0, .inr (12, ((((((vs.set 0 (.int 0)).set 37 (.int (nI i))).set 38 (.int (rM (4 * i + ni)))).set 39 (.int (rS (4 * i + ni)))).set 44 (.int ((LW (rM (4 * i + ni)) (rS (4 * i + ni)) (h + j1) i x7_1 lc (nI (tN (F_X12_leastFrom rD rK rM rS rA rB rF rT rW rO gN i lc pe ni h).1 - j1 - 1)) x8_1 pe rA rB rD rF rO rT rW pe 0 0 0 fb34_1 fb35_1 y44_1 y45_1).2.2.2.1))).set 45 (.int ((LW (rM (4 * i + ni)) (rS (4 * i + ni)) (h + j1) i x7_1 lc (nI (tN (F_X12_leastFrom rD rK rM rS rA rB rF rT rW rO gN i lc pe ni h).1 - j1 - 1)) x8_1 pe rA rB rD rF rO rT rW pe 0 0 0 fb34_1 fb35_1 y44_1 y45_1).2.2.2.2))))), (b6, .inl (g.2.1 1, 11, .inl rP)), (b7, .inl (g.2.1 1, 11, .inl rL)), (b8, .inl (g.2.1 1, 11, .inl rD)), (b12, .inl (g.2.1 1, 132, .inl rA)), (b13, .inl (g.2.1 1, 132, .inl rB)), (b14, .inl (g.2.1 1, 132, .inl rF)), (b15, .inl (g.2.1 1, 132, .inl rT)), (b16, .inl (g.2.1 1, 132, .inl rW)), (b17, .inl (g.2.1 3, 132, .inl rO)), (b34, .inl (g.2.1 0, 425984, .inl ((LW (rM (4 * i + ni)) (rS (4 * i + ni)) (h + j1) i x7_1 lc (nI (tN (F_X12_leastFrom rD rK rM rS rA rB rF rT rW rO gN i lc pe ni h).1 - j1 - 1)) x8_1 pe rA rB rD rF rO rT rW pe 0 0 0 fb34_1 fb35_1 y44_1 y45_1).2.1))), (b35, .inl (g.2.1 1, 7, .inl ((LW (rM (4 * i + ni)) (rS (4 * i + ni)) (h + j1) i x7_1 lc (nI (tN (F_X12_leastFrom rD rK rM rS rA rB rF rT rW rO gN i lc pe ni h).1 - j1 - 1)) x8_1 pe rA rB rD rF rO rT rW pe 0 0 0 fb34_1 fb35_1 y44_1 y45_1).2.2.1)))] := hW
            refine lv_istore (lv' := [(10, .int (zb ((LW (rM (4 * i + ni)) (rS (4 * i + ni)) (h + j1) i x7_1 lc (nI (tN (F_X12_leastFrom rD rK rM rS rA rB rF rT rW rO gN i lc pe ni h).1 - j1 - 1)) x8_1 pe rA rB rD rF rO rT rW pe 0 0 0 fb34_1 fb35_1 y44_1 y45_1).1))), (9, .int (nI j1)), (8, .int x8_1), (7, .int x7_1), (6, .int (nI (tN (F_X12_leastFrom rD rK rM rS rA rB rF rT rW rO gN i lc pe ni h).1))), (0, .ref h0), (1, .int (nI i)), (2, .int (nI ni)), (3, .int (nI h)), (4, .int (nI (tN t))), (5, .int (nI o))]) (pc := 106) hx hb dX12_found_106 hl (by decide) rfl (fun ls hl => ?_)
            refine lv_aload_n (pc := 108) hx hb dX12_found_108 rfl (lv_at hl 5 rfl) ?_
            refine r_get X hW 3 ciX12 44 rfl (by decide) m_1271 rfl (sv_ne (k := 45) (by decide) (sv_eq (k := 44) (n := 64) (by decide) (sv_len (sv_len (sv_len (sv_len hlen)))))) dX12_found_109 ?_
            refine lv_istore (lv' := [(7, .int ((LW (rM (4 * i + ni)) (rS (4 * i + ni)) (h + j1) i x7_1 lc (nI (tN (F_X12_leastFrom rD rK rM rS rA rB rF rT rW rO gN i lc pe ni h).1 - j1 - 1)) x8_1 pe rA rB rD rF rO rT rW pe 0 0 0 fb34_1 fb35_1 y44_1 y45_1).2.2.2.1)), (10, .int (zb ((LW (rM (4 * i + ni)) (rS (4 * i + ni)) (h + j1) i x7_1 lc (nI (tN (F_X12_leastFrom rD rK rM rS rA rB rF rT rW rO gN i lc pe ni h).1 - j1 - 1)) x8_1 pe rA rB rD rF rO rT rW pe 0 0 0 fb34_1 fb35_1 y44_1 y45_1).1))), (9, .int (nI j1)), (8, .int x8_1), (6, .int (nI (tN (F_X12_leastFrom rD rK rM rS rA rB rF rT rW rO gN i lc pe ni h).1))), (0, .ref h0), (1, .int (nI i)), (2, .int (nI ni)), (3, .int (nI h)), (4, .int (nI (tN t))), (5, .int (nI o))]) (pc := 112) hx hb dX12_found_112 hl (by decide) rfl (fun ls hl => ?_)
            refine lv_aload_n (pc := 114) hx hb dX12_found_114 rfl (lv_at hl 5 rfl) ?_
            refine r_get X hW 3 ciX12 45 rfl (by decide) m_1272 rfl (sv_eq (k := 45) (n := 64) (by decide) (sv_len (sv_len (sv_len (sv_len (sv_len hlen)))))) dX12_found_115 ?_
            refine lv_istore (lv' := [(8, .int ((LW (rM (4 * i + ni)) (rS (4 * i + ni)) (h + j1) i x7_1 lc (nI (tN (F_X12_leastFrom rD rK rM rS rA rB rF rT rW rO gN i lc pe ni h).1 - j1 - 1)) x8_1 pe rA rB rD rF rO rT rW pe 0 0 0 fb34_1 fb35_1 y44_1 y45_1).2.2.2.2)), (7, .int ((LW (rM (4 * i + ni)) (rS (4 * i + ni)) (h + j1) i x7_1 lc (nI (tN (F_X12_leastFrom rD rK rM rS rA rB rF rT rW rO gN i lc pe ni h).1 - j1 - 1)) x8_1 pe rA rB rD rF rO rT rW pe 0 0 0 fb34_1 fb35_1 y44_1 y45_1).2.2.2.1)), (10, .int (zb ((LW (rM (4 * i + ni)) (rS (4 * i + ni)) (h + j1) i x7_1 lc (nI (tN (F_X12_leastFrom rD rK rM rS rA rB rF rT rW rO gN i lc pe ni h).1 - j1 - 1)) x8_1 pe rA rB rD rF rO rT rW pe 0 0 0 fb34_1 fb35_1 y44_1 y45_1).1))), (9, .int (nI j1)), (6, .int (nI (tN (F_X12_leastFrom rD rK rM rS rA rB rF rT rW rO gN i lc pe ni h).1))), (0, .ref h0), (1, .int (nI i)), (2, .int (nI ni)), (3, .int (nI h)), (4, .int (nI (tN t))), (5, .int (nI o))]) (pc := 118) hx hb dX12_found_118 hl (by decide) rfl (fun ls hl => ?_)
            refine lv_iinc (v := nI (j1 + 1)) (lv' := [(9, .int (nI (j1 + 1))), (8, .int ((LW (rM (4 * i + ni)) (rS (4 * i + ni)) (h + j1) i x7_1 lc (nI (tN (F_X12_leastFrom rD rK rM rS rA rB rF rT rW rO gN i lc pe ni h).1 - j1 - 1)) x8_1 pe rA rB rD rF rO rT rW pe 0 0 0 fb34_1 fb35_1 y44_1 y45_1).2.2.2.2)), (7, .int ((LW (rM (4 * i + ni)) (rS (4 * i + ni)) (h + j1) i x7_1 lc (nI (tN (F_X12_leastFrom rD rK rM rS rA rB rF rT rW rO gN i lc pe ni h).1 - j1 - 1)) x8_1 pe rA rB rD rF rO rT rW pe 0 0 0 fb34_1 fb35_1 y44_1 y45_1).2.2.2.1)), (10, .int (zb ((LW (rM (4 * i + ni)) (rS (4 * i + ni)) (h + j1) i x7_1 lc (nI (tN (F_X12_leastFrom rD rK rM rS rA rB rF rT rW rO gN i lc pe ni h).1 - j1 - 1)) x8_1 pe rA rB rD rF rO rT rW pe 0 0 0 fb34_1 fb35_1 y44_1 y45_1).1))), (6, .int (nI (tN (F_X12_leastFrom rD rK rM rS rA rB rF rT rW rO gN i lc pe ni h).1))), (0, .ref h0), (1, .int (nI i)), (2, .int (nI ni)), (3, .int (nI h)), (4, .int (nI (tN t))), (5, .int (nI o))]) (pc := 120) hx hb dX12_found_120 hl (k := 3) rfl (nI_add j1 1) (by decide) rfl (fun ls hl => ?_)
            refine lv_goto (tgt := 77) (pc := 123) hx hb dX12_found_123 rfl ?_
            have hW : WD g A s _ _ [(b35, .inl (g.2.1 1, 7, .inl ((LW (rM (4 * i + ni)) (rS (4 * i + ni)) (h + j1) i x7_1 lc (nI (tN (F_X12_leastFrom rD rK rM rS rA rB rF rT rW rO gN i lc pe ni h).1 - j1 - 1)) x8_1 pe rA rB rD rF rO rT rW pe 0 0 0 fb34_1 fb35_1 y44_1 y45_1).2.2.1))), (h0, .inr (12, ((((((vs.set 0 (.int 0)).set 37 (.int (nI i))).set 38 (.int (rM (4 * i + ni)))).set 39 (.int (rS (4 * i + ni)))).set 44 (.int ((LW (rM (4 * i + ni)) (rS (4 * i + ni)) (h + j1) i x7_1 lc (nI (tN (F_X12_leastFrom rD rK rM rS rA rB rF rT rW rO gN i lc pe ni h).1 - j1 - 1)) x8_1 pe rA rB rD rF rO rT rW pe 0 0 0 fb34_1 fb35_1 y44_1 y45_1).2.2.2.1))).set 45 (.int ((LW (rM (4 * i + ni)) (rS (4 * i + ni)) (h + j1) i x7_1 lc (nI (tN (F_X12_leastFrom rD rK rM rS rA rB rF rT rW rO gN i lc pe ni h).1 - j1 - 1)) x8_1 pe rA rB rD rF rO rT rW pe 0 0 0 fb34_1 fb35_1 y44_1 y45_1).2.2.2.2))))), (b6, .inl (g.2.1 1, 11, .inl rP)), (b7, .inl (g.2.1 1, 11, .inl rL)), (b8, .inl (g.2.1 1, 11, .inl rD)), (b9, .inl (g.2.1 1, 44, .inl rK)), (b10, .inl (g.2.1 1, 44, .inl rM)), (b11, .inl (g.2.1 1, 44, .inl rS)), (b12, .inl (g.2.1 1, 132, .inl rA)), (b13, .inl (g.2.1 1, 132, .inl rB)), (b14, .inl (g.2.1 1, 132, .inl rF)), (b15, .inl (g.2.1 1, 132, .inl rT)), (b16, .inl (g.2.1 1, 132, .inl rW)), (b17, .inl (g.2.1 3, 132, .inl rO)), (b34, .inl (g.2.1 0, 425984, .inl ((LW (rM (4 * i + ni)) (rS (4 * i + ni)) (h + j1) i x7_1 lc (nI (tN (F_X12_leastFrom rD rK rM rS rA rB rF rT rW rO gN i lc pe ni h).1 - j1 - 1)) x8_1 pe rA rB rD rF rO rT rW pe 0 0 0 fb34_1 fb35_1 y44_1 y45_1).2.1)))] := hW.pick [14, 3, 4, 5, 6, 0, 1, 2, 7, 8, 9, 10, 11, 12, 13] rfl rfl
            exact ih1 (j1 + 1) ((LW (rM (4 * i + ni)) (rS (4 * i + ni)) (h + j1) i x7_1 lc (nI (tN (F_X12_leastFrom rD rK rM rS rA rB rF rT rW rO gN i lc pe ni h).1 - j1 - 1)) x8_1 pe rA rB rD rF rO rT rW pe 0 0 0 fb34_1 fb35_1 y44_1 y45_1).2.2.2.2) ((LW (rM (4 * i + ni)) (rS (4 * i + ni)) (h + j1) i x7_1 lc (nI (tN (F_X12_leastFrom rD rK rM rS rA rB rF rT rW rO gN i lc pe ni h).1 - j1 - 1)) x8_1 pe rA rB rD rF rO rT rW pe 0 0 0 fb34_1 fb35_1 y44_1 y45_1).2.2.2.1) ((LW (rM (4 * i + ni)) (rS (4 * i + ni)) (h + j1) i x7_1 lc (nI (tN (F_X12_leastFrom rD rK rM rS rA rB rF rT rW rO gN i lc pe ni h).1 - j1 - 1)) x8_1 pe rA rB rD rF rO rT rW pe 0 0 0 fb34_1 fb35_1 y44_1 y45_1).2.1) ((LW (rM (4 * i + ni)) (rS (4 * i + ni)) (h + j1) i x7_1 lc (nI (tN (F_X12_leastFrom rD rK rM rS rA rB rF rT rW rO gN i lc pe ni h).1 - j1 - 1)) x8_1 pe rA rB rD rF rO rT rW pe 0 0 0 fb34_1 fb35_1 y44_1 y45_1).2.2.1) ((LW (rM (4 * i + ni)) (rS (4 * i + ni)) (h + j1) i x7_1 lc (nI (tN (F_X12_leastFrom rD rK rM rS rA rB rF rT rW rO gN i lc pe ni h).1 - j1 - 1)) x8_1 pe rA rB rD rF rO rT rW pe 0 0 0 fb34_1 fb35_1 y44_1 y45_1).2.2.2.1) ((LW (rM (4 * i + ni)) (rS (4 * i + ni)) (h + j1) i x7_1 lc (nI (tN (F_X12_leastFrom rD rK rM rS rA rB rF rT rW rO gN i lc pe ni h).1 - j1 - 1)) x8_1 pe rA rB rD rF rO rT rW pe 0 0 0 fb34_1 fb35_1 y44_1 y45_1).2.2.2.2) (by omega) (by omega) hk9.1 hk9.2 (by rw [L1_X12_found1, ← hst1]; exact (show L1_X12_found1s rD rK rM rS rA rB rF rT rW rO gN i lc pe ni h j1 x8_1 x7_1 fb34_1 fb35_1 y44_1 y45_1 = ((LW (rM (4 * i + ni)) (rS (4 * i + ni)) (h + j1) i x7_1 lc (nI (tN (F_X12_leastFrom rD rK rM rS rA rB rF rT rW rO gN i lc pe ni h).1 - j1 - 1)) x8_1 pe rA rB rD rF rO rT rW pe 0 0 0 fb34_1 fb35_1 y44_1 y45_1).2.2.2.2, (LW (rM (4 * i + ni)) (rS (4 * i + ni)) (h + j1) i x7_1 lc (nI (tN (F_X12_leastFrom rD rK rM rS rA rB rF rT rW rO gN i lc pe ni h).1 - j1 - 1)) x8_1 pe rA rB rD rF rO rT rW pe 0 0 0 fb34_1 fb35_1 y44_1 y45_1).2.2.2.1, ((LW (rM (4 * i + ni)) (rS (4 * i + ni)) (h + j1) i x7_1 lc (nI (tN (F_X12_leastFrom rD rK rM rS rA rB rF rT rW rO gN i lc pe ni h).1 - j1 - 1)) x8_1 pe rA rB rD rF rO rT rW pe 0 0 0 fb34_1 fb35_1 y44_1 y45_1).2.1), ((LW (rM (4 * i + ni)) (rS (4 * i + ni)) (h + j1) i x7_1 lc (nI (tN (F_X12_leastFrom rD rK rM rS rA rB rF rT rW rO gN i lc pe ni h).1 - j1 - 1)) x8_1 pe rA rB rD rF rO rT rW pe 0 0 0 fb34_1 fb35_1 y44_1 y45_1).2.2.1), (LW (rM (4 * i + ni)) (rS (4 * i + ni)) (h + j1) i x7_1 lc (nI (tN (F_X12_leastFrom rD rK rM rS rA rB rF rT rW rO gN i lc pe ni h).1 - j1 - 1)) x8_1 pe rA rB rD rF rO rT rW pe 0 0 0 fb34_1 fb35_1 y44_1 y45_1).2.2.2.1, (LW (rM (4 * i + ni)) (rS (4 * i + ni)) (h + j1) i x7_1 lc (nI (tN (F_X12_leastFrom rD rK rM rS rA rB rF rT rW rO gN i lc pe ni h).1 - j1 - 1)) x8_1 pe rA rB rD rF rO rT rW pe 0 0 0 fb34_1 fb35_1 y44_1 y45_1).2.2.2.2) from rfl).symm) _ _ _ hW (lv_sub hl [0, 1, 2, 4, 5, 6, 7, 8, 9, 10] rfl)
      exact loop1 ((tN t + 1) + 1) 0 (0 : Int32) (rK (4 * i + ni)) ((F_X12_leastFrom rD rK rM rS rA rB rF rT rW rO gN i lc pe ni h).2) gR ka kb (by omega) (by omega) (hkn (4 * i + ni) (by omega)) s7_0 rfl _ _ _ hW (lv_sub hl [0, 1, 2, 3, 4, 5, 6, 7, 8, 9] rfl)
    · refine lv_iconst (v := (-1)) (pc := 57) hx hb dX12_found_57 (by decide) ?_
      have hF : F_X12_found1 rD rK rM rS rA rB rF rT rW rO gN gR ka kb i lc pe ni h t o = ((-1 : Int32), ((F_X12_leastFrom rD rK rM rS rA rB rF rT rW rO gN i lc pe ni h).2), gR, ka, kb) := show F_X12_found1 rD rK rM rS rA rB rF rT rW rO gN gR ka kb i lc pe ni h t o = ((-1 : Int32), ((F_X12_leastFrom rD rK rM rS rA rB rF rT rW rO gN i lc pe ni h).2), gR, ka, kb) from by rw [F_X12_found1, if_neg c8, if_pos c12]
      exact e_i (u := [(h0, .inr (12, ((((((vs.set 0 (.int 0)).set 37 (.int (nI i))).set 38 (.int (rM (4 * i + ni)))).set 39 (.int (rS (4 * i + ni)))).set 44 (.int ka)).set 45 (.int kb)))), (b6, .inl (g.2.1 1, 11, .inl rP)), (b7, .inl (g.2.1 1, 11, .inl rL)), (b8, .inl (g.2.1 1, 11, .inl rD)), (b9, .inl (g.2.1 1, 44, .inl rK)), (b10, .inl (g.2.1 1, 44, .inl rM)), (b11, .inl (g.2.1 1, 44, .inl rS)), (b12, .inl (g.2.1 1, 132, .inl rA)), (b13, .inl (g.2.1 1, 132, .inl rB)), (b14, .inl (g.2.1 1, 132, .inl rF)), (b15, .inl (g.2.1 1, 132, .inl rT)), (b16, .inl (g.2.1 1, 132, .inl rW)), (b17, .inl (g.2.1 3, 132, .inl rO)), (b34, .inl (g.2.1 0, 425984, .inl ((F_X12_leastFrom rD rK rM rS rA rB rF rT rW rO gN i lc pe ni h).2))), (b35, .inl (g.2.1 1, 7, .inl gR))]) X hQ hr (hW) [1, 2, 3, 4, 5, 6, 7, 8, 9, 10, 11, 12, 13, 14, 0] rfl rfl (⟨(congrArg Prod.fst hF).symm, by rw [hF]⟩) ⟨Nat.le_of_ble_eq_true rfl, Nat.le_of_ble_eq_true rfl⟩ dX12_found_58

def F_X12_found0 (nv : Nat) (rP : Nat → Int32) (x : Int32) (y : Int32) (z : Int32) (u : Int32) : Int32 := if F_X12_isAsked nv x y = 0 then ((-1 : Int32)) else (if F_X12_isHour z = 0 then ((-1 : Int32)) else (if F_X12_isPerson rP (tN x) u = 0 then ((-1 : Int32)) else ((-1 : Int32))))
set_option maxHeartbeats 4000000 in
set_option maxRecDepth 100000 in
theorem K_X12_found0 (l : Launch) (g : GG) (h0 : Nat) (vs : List Value) (nv : Nat) (b6 : Nat) (rP : Nat → Int32) (x : Int32) (y : Int32) (z : Int32) (t : Int32) (u : Int32) (hlen : vs.length = 64) (h18_ : vs[18]? = some (.int (nI nv))) (h6_ : vs[6]? = some (.ref b6)) (hn : nv ≤ 10) (hbad : F_X12_isAsked nv x y = 0 ∨ F_X12_isHour z = 0 ∨ F_X12_isPerson rP (tN x) u = 0) : MetI l g yX12_found cX12_found 11 (some .int) 3 0 0 [.ref h0, .int x, .int y, .int z, .int t, .int u] [(h0, .inr (12, vs)), (b6, .inl (g.2.1 1, 11, .inl rP))] (fun r uz => r = (F_X12_found0 nv rP x y z u) ∧ uz = [(h0, .inr (12, (vs.set 0 (.int 0)))), (b6, .inl (g.2.1 1, 11, .inl rP))]) := by
  refine MetI.of (own := RX12) rfl (by decide) (Nat.le_of_ble_eq_true rfl) ?_
  intro p e s m below meth c A ls args Q hQ X hr hin hW hl
  have hx := X.1
  have hb := X.2.1
  have hl : lv_has ls 11 [(0, .ref h0), (1, .int x), (2, .int y), (3, .int z), (4, .int t), (5, .int u)] := hl
  refine lv_aload_n (pc := 0) hx hb dX12_found_0 rfl (lv_at hl 0 rfl) ?_
  refine lv_iload_n (pc := 1) hx hb dX12_found_1 rfl (lv_at hl 1 rfl) ?_
  refine lv_iload_n (pc := 2) hx hb dX12_found_2 rfl (lv_at hl 2 rfl) ?_
  refine c_Vi (pc := 3) (As := [.int x, .int y]) (rest := []) (wr := [(b6, .inl (g.2.1 1, 11, .inl rP))]) X hW 0 ciX12 rfl (K_X12_isAsked l g h0 vs nv x y hlen h18_ (by omega)) vX12_315 [0] [1] rfl rfl rfl rfl rfl rfl hl.1 rfl (Nat.le_of_ble_eq_true rfl) ⟨Nat.le_of_ble_eq_true rfl, Nat.le_of_ble_eq_true rfl⟩ ⟨Nat.le_of_ble_eq_true rfl, Nat.le_of_ble_eq_true rfl⟩ dX12_found_3 (fun r1 u9 H locs hq hW => ?_)
  obtain ⟨rfl, rfl⟩ := hq
  have hW : WD g A s _ _ [(b6, .inl (g.2.1 1, 11, .inl rP)), (h0, .inr (12, (vs.set 0 (.int 0))))] := hW
  refine lv_if_eq (tgt := 26) (pc := 6) hx hb dX12_found_6 rfl (fun c2 => ?_) (fun c2 => ?_)
  · refine lv_iconst (v := (-1)) (pc := 26) hx hb dX12_found_26 (by decide) ?_
    have hF : F_X12_found0 nv rP x y z u = (-1 : Int32) := show F_X12_found0 nv rP x y z u = (-1 : Int32) from by rw [F_X12_found0, if_pos c2]
    exact e_i (u := [(h0, .inr (12, (vs.set 0 (.int 0)))), (b6, .inl (g.2.1 1, 11, .inl rP))]) X hQ hr (hW) [1, 0] rfl rfl (⟨hF.symm, rfl⟩) ⟨Nat.le_of_ble_eq_true rfl, Nat.le_of_ble_eq_true rfl⟩ dX12_found_27
  · have q9 := c2
    refine lv_iload_n (pc := 9) hx hb dX12_found_9 rfl (lv_at hl 3 rfl) ?_
    refine c_Si (pc := 10) (As := [.int z]) (rest := []) (wr := [(b6, .inl (g.2.1 1, 11, .inl rP)), (h0, .inr (12, (vs.set 0 (.int 0))))]) X hW (K_X12_isHour l g z) vX12_228 [] [0, 1] rfl rfl rfl rfl rfl rfl hl.1 rfl (Nat.le_of_ble_eq_true rfl) ⟨Nat.le_of_ble_eq_true rfl, Nat.le_of_ble_eq_true rfl⟩ ⟨Nat.le_of_ble_eq_true rfl, Nat.le_of_ble_eq_true rfl⟩ dX12_found_10 (fun r5 u9 H locs hq hW => ?_)
    obtain ⟨rfl, rfl⟩ := hq
    have hW : WD g A s _ _ [(b6, .inl (g.2.1 1, 11, .inl rP)), (h0, .inr (12, (vs.set 0 (.int 0))))] := hW
    refine lv_if_eq (tgt := 26) (pc := 13) hx hb dX12_found_13 rfl (fun c6 => ?_) (fun c6 => ?_)
    · refine lv_iconst (v := (-1)) (pc := 26) hx hb dX12_found_26 (by decide) ?_
      have hF : F_X12_found0 nv rP x y z u = (-1 : Int32) := show F_X12_found0 nv rP x y z u = (-1 : Int32) from by rw [F_X12_found0, if_neg c2, if_pos c6]
      exact e_i (u := [(h0, .inr (12, (vs.set 0 (.int 0)))), (b6, .inl (g.2.1 1, 11, .inl rP))]) X hQ hr (hW) [1, 0] rfl rfl (⟨hF.symm, rfl⟩) ⟨Nat.le_of_ble_eq_true rfl, Nat.le_of_ble_eq_true rfl⟩ dX12_found_27
    · obtain ⟨⟨dx1, dx2⟩, -⟩ := ia_at hn (show ¬ F_X12_isAsked nv x y = 0 from q9)
      have q13 := c6
      rw [dx1] at hl
      refine lv_aload_n (pc := 16) hx hb dX12_found_16 rfl (lv_at hl 0 rfl) ?_
      refine lv_iload_n (pc := 17) hx hb dX12_found_17 rfl (lv_at hl 1 rfl) ?_
      refine lv_iload (pc := 18) hx hb dX12_found_18 (lv_at hl 5 rfl) ?_
      refine c_Vi (pc := 20) (As := [.int (nI (tN x)), .int u]) (rest := []) (wr := []) X hW 1 ciX12 rfl (K_X12_isPerson l g h0 (vs.set 0 (.int 0)) b6 rP (tN x) u (sv_len hlen) (sv_ne (k := 0) (by decide) h6_) (by omega)) vX12_237 [1, 0] [] rfl rfl rfl rfl rfl rfl hl.1 rfl (Nat.le_of_ble_eq_true rfl) ⟨Nat.le_of_ble_eq_true rfl, Nat.le_of_ble_eq_true rfl⟩ ⟨Nat.le_of_ble_eq_true rfl, Nat.le_of_ble_eq_true rfl⟩ dX12_found_20 (fun r9 u9 H locs hq hW => ?_)
      obtain ⟨rfl, rfl⟩ := hq
      have hW : WD g A s _ _ [(h0, .inr (12, (vs.set 0 (.int 0)))), (b6, .inl (g.2.1 1, 11, .inl rP))] := hW
      refine lv_if_ne (tgt := 28) (pc := 23) hx hb dX12_found_23 rfl (fun c10 => ?_) (fun c10 => ?_)
      · exact False.elim (hbad.elim q9 fun q => q.elim q13 c10)
      · refine lv_iconst (v := (-1)) (pc := 26) hx hb dX12_found_26 (by decide) ?_
        have hF : F_X12_found0 nv rP x y z u = (-1 : Int32) := show F_X12_found0 nv rP x y z u = (-1 : Int32) from by rw [F_X12_found0, if_neg c2, if_neg c6, if_pos c10]
        exact e_i (u := [(h0, .inr (12, (vs.set 0 (.int 0)))), (b6, .inl (g.2.1 1, 11, .inl rP))]) X hQ hr (hW) [0, 1] rfl rfl (⟨hF.symm, rfl⟩) ⟨Nat.le_of_ble_eq_true rfl, Nat.le_of_ble_eq_true rfl⟩ dX12_found_27

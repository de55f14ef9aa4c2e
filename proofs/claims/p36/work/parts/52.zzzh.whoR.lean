theorem dX12_isAsTold_0 : decode cX12_isAsTold 0 = .ok (.iconst 0, 1) := DX12_isAsTold _ _ _ rfl
theorem dX12_isAsTold_1 : decode cX12_isAsTold 1 = .ok (.istore 5, 2) := DX12_isAsTold _ _ _ rfl
theorem dX12_isAsTold_3 : decode cX12_isAsTold 3 = .ok (.iload 5, 2) := DX12_isAsTold _ _ _ rfl
theorem dX12_isAsTold_5 : decode cX12_isAsTold 5 = .ok (.aload_n 0, 1) := DX12_isAsTold _ _ _ rfl
theorem dX12_isAsTold_6 : decode cX12_isAsTold 6 = .ok (.getfield 13, 3) := DX12_isAsTold _ _ _ rfl
theorem dX12_isAsTold_9 : decode cX12_isAsTold 9 = .ok (.iload_n 1, 1) := DX12_isAsTold _ _ _ rfl
theorem dX12_isAsTold_10 : decode cX12_isAsTold 10 = .ok (.iaload, 1) := DX12_isAsTold _ _ _ rfl
theorem dX12_isAsTold_11 : decode cX12_isAsTold 11 = .ok (.if_icmp .ge 57, 3) := DX12_isAsTold _ _ _ rfl
theorem dX12_isAsTold_68 : decode cX12_isAsTold 68 = .ok (.iconst 1, 1) := DX12_isAsTold _ _ _ rfl
theorem dX12_isAsTold_69 : decode cX12_isAsTold 69 = .ok (.ireturn, 1) := DX12_isAsTold _ _ _ rfl
theorem dX12_isAsTold_14 : decode cX12_isAsTold 14 = .ok (.aload_n 0, 1) := DX12_isAsTold _ _ _ rfl
theorem dX12_isAsTold_15 : decode cX12_isAsTold 15 = .ok (.iload_n 1, 1) := DX12_isAsTold _ _ _ rfl
theorem dX12_isAsTold_16 : decode cX12_isAsTold 16 = .ok (.iload_n 2, 1) := DX12_isAsTold _ _ _ rfl
theorem dX12_isAsTold_17 : decode cX12_isAsTold 17 = .ok (.iload 5, 2) := DX12_isAsTold _ _ _ rfl
theorem dX12_isAsTold_19 : decode cX12_isAsTold 19 = .ok (.invokevirtual 398, 3) := DX12_isAsTold _ _ _ rfl
theorem dX12_isAsTold_22 : decode cX12_isAsTold 22 = .ok (.istore 6, 2) := DX12_isAsTold _ _ _ rfl
theorem dX12_isAsTold_24 : decode cX12_isAsTold 24 = .ok (.iload 6, 2) := DX12_isAsTold _ _ _ rfl
theorem dX12_isAsTold_26 : decode cX12_isAsTold 26 = .ok (.iconst (-1), 1) := DX12_isAsTold _ _ _ rfl
theorem dX12_isAsTold_27 : decode cX12_isAsTold 27 = .ok (.if_icmp .eq 35, 3) := DX12_isAsTold _ _ _ rfl
theorem dX12_isAsTold_62 : decode cX12_isAsTold 62 = .ok (.iinc 5 1, 3) := DX12_isAsTold _ _ _ rfl
theorem dX12_isAsTold_65 : decode cX12_isAsTold 65 = .ok (.goto (-62), 3) := DX12_isAsTold _ _ _ rfl
theorem dX12_isAsTold_30 : decode cX12_isAsTold 30 = .ok (.iload 6, 2) := DX12_isAsTold _ _ _ rfl
theorem dX12_isAsTold_32 : decode cX12_isAsTold 32 = .ok (.iload 4, 2) := DX12_isAsTold _ _ _ rfl
theorem dX12_isAsTold_34 : decode cX12_isAsTold 34 = .ok (.if_icmp .gt 7, 3) := DX12_isAsTold _ _ _ rfl
theorem dX12_isAsTold_41 : decode cX12_isAsTold 41 = .ok (.iconst 0, 1) := DX12_isAsTold _ _ _ rfl
theorem dX12_isAsTold_42 : decode cX12_isAsTold 42 = .ok (.iload_n 3, 1) := DX12_isAsTold _ _ _ rfl
theorem dX12_isAsTold_43 : decode cX12_isAsTold 43 = .ok (.iload 5, 2) := DX12_isAsTold _ _ _ rfl
theorem dX12_isAsTold_45 : decode cX12_isAsTold 45 = .ok (.ishr, 1) := DX12_isAsTold _ _ _ rfl
theorem dX12_isAsTold_46 : decode cX12_isAsTold 46 = .ok (.iconst 1, 1) := DX12_isAsTold _ _ _ rfl
theorem dX12_isAsTold_47 : decode cX12_isAsTold 47 = .ok (.iand, 1) := DX12_isAsTold _ _ _ rfl
theorem dX12_isAsTold_48 : decode cX12_isAsTold 48 = .ok (.iconst 1, 1) := DX12_isAsTold _ _ _ rfl
theorem dX12_isAsTold_49 : decode cX12_isAsTold 49 = .ok (.if_icmp .ne 7, 3) := DX12_isAsTold _ _ _ rfl
theorem dX12_isAsTold_56 : decode cX12_isAsTold 56 = .ok (.iconst 0, 1) := DX12_isAsTold _ _ _ rfl
theorem dX12_isAsTold_57 : decode cX12_isAsTold 57 = .ok (.if_icmp .eq 5, 3) := DX12_isAsTold _ _ _ rfl
theorem dX12_isAsTold_52 : decode cX12_isAsTold 52 = .ok (.iconst 1, 1) := DX12_isAsTold _ _ _ rfl
theorem dX12_isAsTold_53 : decode cX12_isAsTold 53 = .ok (.goto 4, 3) := DX12_isAsTold _ _ _ rfl
theorem dX12_isAsTold_60 : decode cX12_isAsTold 60 = .ok (.iconst 0, 1) := DX12_isAsTold _ _ _ rfl
theorem dX12_isAsTold_61 : decode cX12_isAsTold 61 = .ok (.ireturn, 1) := DX12_isAsTold _ _ _ rfl
theorem dX12_isAsTold_37 : decode cX12_isAsTold 37 = .ok (.iconst 1, 1) := DX12_isAsTold _ _ _ rfl
theorem dX12_isAsTold_38 : decode cX12_isAsTold 38 = .ok (.goto 4, 3) := DX12_isAsTold _ _ _ rfl
theorem dX12_goRows_0 : decode cX12_goRows 0 = .ok (.iload 6, 2) := DX12_goRows _ _ _ rfl
theorem dX12_goRows_2 : decode cX12_goRows 2 = .ok (.aload_n 0, 1) := DX12_goRows _ _ _ rfl
theorem dX12_goRows_3 : decode cX12_goRows 3 = .ok (.getfield 13, 3) := DX12_goRows _ _ _ rfl
theorem dX12_goRows_6 : decode cX12_goRows 6 = .ok (.iload_n 1, 1) := DX12_goRows _ _ _ rfl
theorem dX12_goRows_7 : decode cX12_goRows 7 = .ok (.iaload, 1) := DX12_goRows _ _ _ rfl
theorem dX12_goRows_8 : decode cX12_goRows 8 = .ok (.if_icmp .ne 78, 3) := DX12_goRows _ _ _ rfl
theorem dX12_goRows_86 : decode cX12_goRows 86 = .ok (.aload_n 0, 1) := DX12_goRows _ _ _ rfl
theorem dX12_goRows_87 : decode cX12_goRows 87 = .ok (.getfield 29, 3) := DX12_goRows _ _ _ rfl
theorem dX12_goRows_90 : decode cX12_goRows 90 = .ok (.iconst 4, 1) := DX12_goRows _ _ _ rfl
theorem dX12_goRows_91 : decode cX12_goRows 91 = .ok (.iload_n 1, 1) := DX12_goRows _ _ _ rfl
theorem dX12_goRows_92 : decode cX12_goRows 92 = .ok (.imul, 1) := DX12_goRows _ _ _ rfl
theorem dX12_goRows_93 : decode cX12_goRows 93 = .ok (.iload_n 2, 1) := DX12_goRows _ _ _ rfl
theorem dX12_goRows_94 : decode cX12_goRows 94 = .ok (.iadd, 1) := DX12_goRows _ _ _ rfl
theorem dX12_goRows_95 : decode cX12_goRows 95 = .ok (.iaload, 1) := DX12_goRows _ _ _ rfl
theorem dX12_goRows_96 : decode cX12_goRows 96 = .ok (.istore 9, 2) := DX12_goRows _ _ _ rfl
theorem dX12_goRows_98 : decode cX12_goRows 98 = .ok (.iload 4, 2) := DX12_goRows _ _ _ rfl
theorem dX12_goRows_100 : decode cX12_goRows 100 = .ok (.iload 6, 2) := DX12_goRows _ _ _ rfl
theorem dX12_goRows_102 : decode cX12_goRows 102 = .ok (.ishr, 1) := DX12_goRows _ _ _ rfl
theorem dX12_goRows_103 : decode cX12_goRows 103 = .ok (.iconst 1, 1) := DX12_goRows _ _ _ rfl
theorem dX12_goRows_104 : decode cX12_goRows 104 = .ok (.iand, 1) := DX12_goRows _ _ _ rfl
theorem dX12_goRows_105 : decode cX12_goRows 105 = .ok (.iconst 1, 1) := DX12_goRows _ _ _ rfl
theorem dX12_goRows_106 : decode cX12_goRows 106 = .ok (.if_icmp .ne 27, 3) := DX12_goRows _ _ _ rfl
theorem dX12_goRows_133 : decode cX12_goRows 133 = .ok (.iconst 0, 1) := DX12_goRows _ _ _ rfl
theorem dX12_goRows_134 : decode cX12_goRows 134 = .ok (.istore 10, 2) := DX12_goRows _ _ _ rfl
theorem dX12_goRows_136 : decode cX12_goRows 136 = .ok (.iconst 0, 1) := DX12_goRows _ _ _ rfl
theorem dX12_goRows_137 : decode cX12_goRows 137 = .ok (.istore 11, 2) := DX12_goRows _ _ _ rfl
theorem dX12_goRows_139 : decode cX12_goRows 139 = .ok (.iload 11, 2) := DX12_goRows _ _ _ rfl
theorem dX12_goRows_141 : decode cX12_goRows 141 = .ok (.aload_n 0, 1) := DX12_goRows _ _ _ rfl
theorem dX12_goRows_142 : decode cX12_goRows 142 = .ok (.getfield 13, 3) := DX12_goRows _ _ _ rfl
theorem dX12_goRows_145 : decode cX12_goRows 145 = .ok (.iload_n 1, 1) := DX12_goRows _ _ _ rfl
theorem dX12_goRows_146 : decode cX12_goRows 146 = .ok (.iaload, 1) := DX12_goRows _ _ _ rfl
theorem dX12_goRows_147 : decode cX12_goRows 147 = .ok (.if_icmp .ge 88, 3) := DX12_goRows _ _ _ rfl
theorem dX12_goRows_150 : decode cX12_goRows 150 = .ok (.iload 10, 2) := DX12_goRows _ _ _ rfl
theorem dX12_goRows_152 : decode cX12_goRows 152 = .ok (.ifCond .eq 83, 3) := DX12_goRows _ _ _ rfl
theorem dX12_goRows_235 : decode cX12_goRows 235 = .ok (.aload_n 0, 1) := DX12_goRows _ _ _ rfl
theorem dX12_goRows_236 : decode cX12_goRows 236 = .ok (.iload_n 1, 1) := DX12_goRows _ _ _ rfl
theorem dX12_goRows_237 : decode cX12_goRows 237 = .ok (.iload_n 2, 1) := DX12_goRows _ _ _ rfl
theorem dX12_goRows_238 : decode cX12_goRows 238 = .ok (.iload_n 3, 1) := DX12_goRows _ _ _ rfl
theorem dX12_goRows_239 : decode cX12_goRows 239 = .ok (.iload 4, 2) := DX12_goRows _ _ _ rfl
theorem dX12_goRows_241 : decode cX12_goRows 241 = .ok (.iload 5, 2) := DX12_goRows _ _ _ rfl
theorem dX12_goRows_243 : decode cX12_goRows 243 = .ok (.iload 6, 2) := DX12_goRows _ _ _ rfl
theorem dX12_goRows_245 : decode cX12_goRows 245 = .ok (.iconst 1, 1) := DX12_goRows _ _ _ rfl
theorem dX12_goRows_246 : decode cX12_goRows 246 = .ok (.iadd, 1) := DX12_goRows _ _ _ rfl
theorem dX12_goRows_247 : decode cX12_goRows 247 = .ok (.iload 7, 2) := DX12_goRows _ _ _ rfl
theorem dX12_goRows_249 : decode cX12_goRows 249 = .ok (.iload 8, 2) := DX12_goRows _ _ _ rfl
theorem dX12_goRows_251 : decode cX12_goRows 251 = .ok (.invokevirtual 404, 3) := DX12_goRows _ _ _ rfl
theorem dX12_goRows_254 : decode cX12_goRows 254 = .ok (.return_, 1) := DX12_goRows _ _ _ rfl
theorem dX12_goRows_109 : decode cX12_goRows 109 = .ok (.iload 9, 2) := DX12_goRows _ _ _ rfl
theorem dX12_goRows_111 : decode cX12_goRows 111 = .ok (.iload 6, 2) := DX12_goRows _ _ _ rfl
theorem dX12_goRows_113 : decode cX12_goRows 113 = .ok (.ishr, 1) := DX12_goRows _ _ _ rfl
theorem dX12_goRows_114 : decode cX12_goRows 114 = .ok (.iconst 1, 1) := DX12_goRows _ _ _ rfl
theorem dX12_goRows_115 : decode cX12_goRows 115 = .ok (.iand, 1) := DX12_goRows _ _ _ rfl
theorem dX12_goRows_116 : decode cX12_goRows 116 = .ok (.ifCond .ne 17, 3) := DX12_goRows _ _ _ rfl
theorem dX12_goRows_119 : decode cX12_goRows 119 = .ok (.iload 7, 2) := DX12_goRows _ _ _ rfl
theorem dX12_goRows_121 : decode cX12_goRows 121 = .ok (.iload 6, 2) := DX12_goRows _ _ _ rfl
theorem dX12_goRows_123 : decode cX12_goRows 123 = .ok (.ishr, 1) := DX12_goRows _ _ _ rfl
theorem dX12_goRows_124 : decode cX12_goRows 124 = .ok (.iconst 1, 1) := DX12_goRows _ _ _ rfl
theorem dX12_goRows_125 : decode cX12_goRows 125 = .ok (.iand, 1) := DX12_goRows _ _ _ rfl
theorem dX12_goRows_126 : decode cX12_goRows 126 = .ok (.ifCond .ne 7, 3) := DX12_goRows _ _ _ rfl
theorem dX12_goRows_129 : decode cX12_goRows 129 = .ok (.iconst 1, 1) := DX12_goRows _ _ _ rfl
theorem dX12_goRows_130 : decode cX12_goRows 130 = .ok (.goto 4, 3) := DX12_goRows _ _ _ rfl
theorem dX12_goRows_155 : decode cX12_goRows 155 = .ok (.iload 11, 2) := DX12_goRows _ _ _ rfl
theorem dX12_goRows_157 : decode cX12_goRows 157 = .ok (.iload 6, 2) := DX12_goRows _ _ _ rfl
theorem dX12_goRows_159 : decode cX12_goRows 159 = .ok (.if_icmp .eq 70, 3) := DX12_goRows _ _ _ rfl
theorem dX12_goRows_229 : decode cX12_goRows 229 = .ok (.iinc 11 1, 3) := DX12_goRows _ _ _ rfl
theorem dX12_goRows_232 : decode cX12_goRows 232 = .ok (.goto (-93), 3) := DX12_goRows _ _ _ rfl
theorem dX12_goRows_162 : decode cX12_goRows 162 = .ok (.iload 7, 2) := DX12_goRows _ _ _ rfl
theorem dX12_goRows_164 : decode cX12_goRows 164 = .ok (.iload 9, 2) := DX12_goRows _ _ _ rfl
theorem dX12_goRows_166 : decode cX12_goRows 166 = .ok (.ior, 1) := DX12_goRows _ _ _ rfl
theorem dX12_goRows_167 : decode cX12_goRows 167 = .ok (.iload 4, 2) := DX12_goRows _ _ _ rfl
theorem dX12_goRows_169 : decode cX12_goRows 169 = .ok (.ior, 1) := DX12_goRows _ _ _ rfl
theorem dX12_goRows_170 : decode cX12_goRows 170 = .ok (.iload 11, 2) := DX12_goRows _ _ _ rfl
theorem dX12_goRows_172 : decode cX12_goRows 172 = .ok (.ishr, 1) := DX12_goRows _ _ _ rfl
theorem dX12_goRows_173 : decode cX12_goRows 173 = .ok (.iconst 1, 1) := DX12_goRows _ _ _ rfl
theorem dX12_goRows_174 : decode cX12_goRows 174 = .ok (.iand, 1) := DX12_goRows _ _ _ rfl
theorem dX12_goRows_175 : decode cX12_goRows 175 = .ok (.iconst 1, 1) := DX12_goRows _ _ _ rfl
theorem dX12_goRows_176 : decode cX12_goRows 176 = .ok (.if_icmp .eq 53, 3) := DX12_goRows _ _ _ rfl
theorem dX12_goRows_179 : decode cX12_goRows 179 = .ok (.aload_n 0, 1) := DX12_goRows _ _ _ rfl
theorem dX12_goRows_180 : decode cX12_goRows 180 = .ok (.iload_n 1, 1) := DX12_goRows _ _ _ rfl
theorem dX12_goRows_181 : decode cX12_goRows 181 = .ok (.iload 6, 2) := DX12_goRows _ _ _ rfl
theorem dX12_goRows_183 : decode cX12_goRows 183 = .ok (.iload 11, 2) := DX12_goRows _ _ _ rfl
theorem dX12_goRows_185 : decode cX12_goRows 185 = .ok (.iload_n 3, 1) := DX12_goRows _ _ _ rfl
theorem dX12_goRows_186 : decode cX12_goRows 186 = .ok (.invokevirtual 240, 3) := DX12_goRows _ _ _ rfl
theorem dX12_goRows_189 : decode cX12_goRows 189 = .ok (.ifCond .ne 6, 3) := DX12_goRows _ _ _ rfl
theorem dX12_goRows_195 : decode cX12_goRows 195 = .ok (.aload_n 0, 1) := DX12_goRows _ _ _ rfl
theorem dX12_goRows_196 : decode cX12_goRows 196 = .ok (.iload_n 1, 1) := DX12_goRows _ _ _ rfl
theorem dX12_goRows_197 : decode cX12_goRows 197 = .ok (.iload_n 2, 1) := DX12_goRows _ _ _ rfl
theorem dX12_goRows_198 : decode cX12_goRows 198 = .ok (.iload_n 3, 1) := DX12_goRows _ _ _ rfl
theorem dX12_goRows_199 : decode cX12_goRows 199 = .ok (.iload 4, 2) := DX12_goRows _ _ _ rfl
theorem dX12_goRows_201 : decode cX12_goRows 201 = .ok (.iload 5, 2) := DX12_goRows _ _ _ rfl
theorem dX12_goRows_203 : decode cX12_goRows 203 = .ok (.iload 6, 2) := DX12_goRows _ _ _ rfl
theorem dX12_goRows_205 : decode cX12_goRows 205 = .ok (.iconst 1, 1) := DX12_goRows _ _ _ rfl
theorem dX12_goRows_206 : decode cX12_goRows 206 = .ok (.iadd, 1) := DX12_goRows _ _ _ rfl
theorem dX12_goRows_207 : decode cX12_goRows 207 = .ok (.iload 7, 2) := DX12_goRows _ _ _ rfl
theorem dX12_goRows_209 : decode cX12_goRows 209 = .ok (.iconst 1, 1) := DX12_goRows _ _ _ rfl
theorem dX12_goRows_210 : decode cX12_goRows 210 = .ok (.iload 6, 2) := DX12_goRows _ _ _ rfl
theorem dX12_goRows_212 : decode cX12_goRows 212 = .ok (.ishl, 1) := DX12_goRows _ _ _ rfl
theorem dX12_goRows_213 : decode cX12_goRows 213 = .ok (.ior, 1) := DX12_goRows _ _ _ rfl
theorem dX12_goRows_214 : decode cX12_goRows 214 = .ok (.iconst 1, 1) := DX12_goRows _ _ _ rfl
theorem dX12_goRows_215 : decode cX12_goRows 215 = .ok (.iload 11, 2) := DX12_goRows _ _ _ rfl
theorem dX12_goRows_217 : decode cX12_goRows 217 = .ok (.ishl, 1) := DX12_goRows _ _ _ rfl
theorem dX12_goRows_218 : decode cX12_goRows 218 = .ok (.ior, 1) := DX12_goRows _ _ _ rfl
theorem dX12_goRows_219 : decode cX12_goRows 219 = .ok (.iload 8, 2) := DX12_goRows _ _ _ rfl
theorem dX12_goRows_221 : decode cX12_goRows 221 = .ok (.iconst 1, 1) := DX12_goRows _ _ _ rfl
theorem dX12_goRows_222 : decode cX12_goRows 222 = .ok (.iload 11, 2) := DX12_goRows _ _ _ rfl
theorem dX12_goRows_224 : decode cX12_goRows 224 = .ok (.ishl, 1) := DX12_goRows _ _ _ rfl
theorem dX12_goRows_225 : decode cX12_goRows 225 = .ok (.ior, 1) := DX12_goRows _ _ _ rfl
theorem dX12_goRows_226 : decode cX12_goRows 226 = .ok (.invokevirtual 404, 3) := DX12_goRows _ _ _ rfl
theorem dX12_goRows_192 : decode cX12_goRows 192 = .ok (.goto 37, 3) := DX12_goRows _ _ _ rfl
theorem dX12_goRows_11 : decode cX12_goRows 11 = .ok (.iload 8, 2) := DX12_goRows _ _ _ rfl
theorem dX12_goRows_13 : decode cX12_goRows 13 = .ok (.iload 4, 2) := DX12_goRows _ _ _ rfl
theorem dX12_goRows_15 : decode cX12_goRows 15 = .ok (.iconst (-1), 1) := DX12_goRows _ _ _ rfl
theorem dX12_goRows_16 : decode cX12_goRows 16 = .ok (.ixor, 1) := DX12_goRows _ _ _ rfl
theorem dX12_goRows_17 : decode cX12_goRows 17 = .ok (.iand, 1) := DX12_goRows _ _ _ rfl
theorem dX12_goRows_18 : decode cX12_goRows 18 = .ok (.istore 9, 2) := DX12_goRows _ _ _ rfl
theorem dX12_goRows_20 : decode cX12_goRows 20 = .ok (.iload 9, 2) := DX12_goRows _ _ _ rfl
theorem dX12_goRows_22 : decode cX12_goRows 22 = .ok (.aload_n 0, 1) := DX12_goRows _ _ _ rfl
theorem dX12_goRows_23 : decode cX12_goRows 23 = .ok (.getfield 20, 3) := DX12_goRows _ _ _ rfl
theorem dX12_goRows_26 : decode cX12_goRows 26 = .ok (.iload_n 1, 1) := DX12_goRows _ _ _ rfl
theorem dX12_goRows_27 : decode cX12_goRows 27 = .ok (.iaload, 1) := DX12_goRows _ _ _ rfl
theorem dX12_goRows_28 : decode cX12_goRows 28 = .ok (.iconst (-1), 1) := DX12_goRows _ _ _ rfl
theorem dX12_goRows_29 : decode cX12_goRows 29 = .ok (.ixor, 1) := DX12_goRows _ _ _ rfl
theorem dX12_goRows_30 : decode cX12_goRows 30 = .ok (.iload 5, 2) := DX12_goRows _ _ _ rfl
theorem dX12_goRows_32 : decode cX12_goRows 32 = .ok (.ior, 1) := DX12_goRows _ _ _ rfl
theorem dX12_goRows_33 : decode cX12_goRows 33 = .ok (.iand, 1) := DX12_goRows _ _ _ rfl
theorem dX12_goRows_34 : decode cX12_goRows 34 = .ok (.istore 10, 2) := DX12_goRows _ _ _ rfl
theorem dX12_goRows_36 : decode cX12_goRows 36 = .ok (.iload 4, 2) := DX12_goRows _ _ _ rfl
theorem dX12_goRows_38 : decode cX12_goRows 38 = .ok (.iload 10, 2) := DX12_goRows _ _ _ rfl
theorem dX12_goRows_40 : decode cX12_goRows 40 = .ok (.ior, 1) := DX12_goRows _ _ _ rfl
theorem dX12_goRows_41 : decode cX12_goRows 41 = .ok (.istore 11, 2) := DX12_goRows _ _ _ rfl
theorem dX12_goRows_43 : decode cX12_goRows 43 = .ok (.aload_n 0, 1) := DX12_goRows _ _ _ rfl
theorem dX12_goRows_44 : decode cX12_goRows 44 = .ok (.iload_n 1, 1) := DX12_goRows _ _ _ rfl
theorem dX12_goRows_45 : decode cX12_goRows 45 = .ok (.iload_n 2, 1) := DX12_goRows _ _ _ rfl
theorem dX12_goRows_46 : decode cX12_goRows 46 = .ok (.iload 11, 2) := DX12_goRows _ _ _ rfl
theorem dX12_goRows_48 : decode cX12_goRows 48 = .ok (.iload_n 3, 1) := DX12_goRows _ _ _ rfl
theorem dX12_goRows_49 : decode cX12_goRows 49 = .ok (.invokevirtual 401, 3) := DX12_goRows _ _ _ rfl
theorem dX12_goRows_52 : decode cX12_goRows 52 = .ok (.ifCond .eq 33, 3) := DX12_goRows _ _ _ rfl
theorem dX12_goRows_85 : decode cX12_goRows 85 = .ok (.return_, 1) := DX12_goRows _ _ _ rfl
theorem dX12_goRows_55 : decode cX12_goRows 55 = .ok (.aload_n 0, 1) := DX12_goRows _ _ _ rfl
theorem dX12_goRows_56 : decode cX12_goRows 56 = .ok (.getfield 157, 3) := DX12_goRows _ _ _ rfl
theorem dX12_goRows_59 : decode cX12_goRows 59 = .ok (.sipush 128, 3) := DX12_goRows _ _ _ rfl
theorem dX12_goRows_62 : decode cX12_goRows 62 = .ok (.iload 11, 2) := DX12_goRows _ _ _ rfl
theorem dX12_goRows_64 : decode cX12_goRows 64 = .ok (.imul, 1) := DX12_goRows _ _ _ rfl
theorem dX12_goRows_65 : decode cX12_goRows 65 = .ok (.iload 5, 2) := DX12_goRows _ _ _ rfl
theorem dX12_goRows_67 : decode cX12_goRows 67 = .ok (.iload 9, 2) := DX12_goRows _ _ _ rfl
theorem dX12_goRows_69 : decode cX12_goRows 69 = .ok (.ior, 1) := DX12_goRows _ _ _ rfl
theorem dX12_goRows_70 : decode cX12_goRows 70 = .ok (.aload_n 0, 1) := DX12_goRows _ _ _ rfl
theorem dX12_goRows_71 : decode cX12_goRows 71 = .ok (.getfield 20, 3) := DX12_goRows _ _ _ rfl
theorem dX12_goRows_74 : decode cX12_goRows 74 = .ok (.iload_n 1, 1) := DX12_goRows _ _ _ rfl
theorem dX12_goRows_75 : decode cX12_goRows 75 = .ok (.iaload, 1) := DX12_goRows _ _ _ rfl
theorem dX12_goRows_76 : decode cX12_goRows 76 = .ok (.iand, 1) := DX12_goRows _ _ _ rfl
theorem dX12_goRows_77 : decode cX12_goRows 77 = .ok (.iload 11, 2) := DX12_goRows _ _ _ rfl
theorem dX12_goRows_79 : decode cX12_goRows 79 = .ok (.iconst (-1), 1) := DX12_goRows _ _ _ rfl
theorem dX12_goRows_80 : decode cX12_goRows 80 = .ok (.ixor, 1) := DX12_goRows _ _ _ rfl
theorem dX12_goRows_81 : decode cX12_goRows 81 = .ok (.iand, 1) := DX12_goRows _ _ _ rfl
theorem dX12_goRows_82 : decode cX12_goRows 82 = .ok (.iadd, 1) := DX12_goRows _ _ _ rfl
theorem dX12_goRows_83 : decode cX12_goRows 83 = .ok (.iconst 1, 1) := DX12_goRows _ _ _ rfl
theorem dX12_goRows_84 : decode cX12_goRows 84 = .ok (.bastore, 1) := DX12_goRows _ _ _ rfl
theorem dX12_canBegin_0 : decode cX12_canBegin 0 = .ok (.aload_n 0, 1) := DX12_canBegin _ _ _ rfl
theorem dX12_canBegin_1 : decode cX12_canBegin 1 = .ok (.iload_n 1, 1) := DX12_canBegin _ _ _ rfl
theorem dX12_canBegin_2 : decode cX12_canBegin 2 = .ok (.iload_n 2, 1) := DX12_canBegin _ _ _ rfl
theorem dX12_canBegin_3 : decode cX12_canBegin 3 = .ok (.iconst 1, 1) := DX12_canBegin _ _ _ rfl
theorem dX12_canBegin_4 : decode cX12_canBegin 4 = .ok (.iload_n 3, 1) := DX12_canBegin _ _ _ rfl
theorem dX12_canBegin_5 : decode cX12_canBegin 5 = .ok (.ishl, 1) := DX12_canBegin _ _ _ rfl
theorem dX12_canBegin_6 : decode cX12_canBegin 6 = .ok (.iconst 0, 1) := DX12_canBegin _ _ _ rfl
theorem dX12_canBegin_7 : decode cX12_canBegin 7 = .ok (.invokevirtual 401, 3) := DX12_canBegin _ _ _ rfl
theorem dX12_canBegin_10 : decode cX12_canBegin 10 = .ok (.ifCond .ne 5, 3) := DX12_canBegin _ _ _ rfl
theorem dX12_canBegin_15 : decode cX12_canBegin 15 = .ok (.iconst 0, 1) := DX12_canBegin _ _ _ rfl
theorem dX12_canBegin_16 : decode cX12_canBegin 16 = .ok (.istore 4, 2) := DX12_canBegin _ _ _ rfl
theorem dX12_canBegin_18 : decode cX12_canBegin 18 = .ok (.iload 4, 2) := DX12_canBegin _ _ _ rfl
theorem dX12_canBegin_20 : decode cX12_canBegin 20 = .ok (.sipush 16384, 3) := DX12_canBegin _ _ _ rfl
theorem dX12_canBegin_23 : decode cX12_canBegin 23 = .ok (.if_icmp .ge 31, 3) := DX12_canBegin _ _ _ rfl
theorem dX12_canBegin_54 : decode cX12_canBegin 54 = .ok (.iconst 1, 1) := DX12_canBegin _ _ _ rfl
theorem dX12_canBegin_55 : decode cX12_canBegin 55 = .ok (.istore 4, 2) := DX12_canBegin _ _ _ rfl
theorem dX12_canBegin_57 : decode cX12_canBegin 57 = .ok (.iconst 1, 1) := DX12_canBegin _ _ _ rfl
theorem dX12_canBegin_58 : decode cX12_canBegin 58 = .ok (.istore 5, 2) := DX12_canBegin _ _ _ rfl
theorem dX12_canBegin_60 : decode cX12_canBegin 60 = .ok (.iload 5, 2) := DX12_canBegin _ _ _ rfl
theorem dX12_canBegin_62 : decode cX12_canBegin 62 = .ok (.bipush 24, 2) := DX12_canBegin _ _ _ rfl
theorem dX12_canBegin_64 : decode cX12_canBegin 64 = .ok (.if_icmp .gt 145, 3) := DX12_canBegin _ _ _ rfl
theorem dX12_canBegin_209 : decode cX12_canBegin 209 = .ok (.iload 4, 2) := DX12_canBegin _ _ _ rfl
theorem dX12_canBegin_211 : decode cX12_canBegin 211 = .ok (.ireturn, 1) := DX12_canBegin _ _ _ rfl
theorem dX12_canBegin_67 : decode cX12_canBegin 67 = .ok (.iload 4, 2) := DX12_canBegin _ _ _ rfl
theorem dX12_canBegin_69 : decode cX12_canBegin 69 = .ok (.ifCond .eq 140, 3) := DX12_canBegin _ _ _ rfl
theorem dX12_canBegin_72 : decode cX12_canBegin 72 = .ok (.iconst 0, 1) := DX12_canBegin _ _ _ rfl
theorem dX12_canBegin_73 : decode cX12_canBegin 73 = .ok (.istore 4, 2) := DX12_canBegin _ _ _ rfl
theorem dX12_canBegin_75 : decode cX12_canBegin 75 = .ok (.iconst 0, 1) := DX12_canBegin _ _ _ rfl
theorem dX12_canBegin_76 : decode cX12_canBegin 76 = .ok (.istore 6, 2) := DX12_canBegin _ _ _ rfl
theorem dX12_canBegin_78 : decode cX12_canBegin 78 = .ok (.iload 6, 2) := DX12_canBegin _ _ _ rfl
theorem dX12_canBegin_80 : decode cX12_canBegin 80 = .ok (.sipush 16384, 3) := DX12_canBegin _ _ _ rfl
theorem dX12_canBegin_83 : decode cX12_canBegin 83 = .ok (.if_icmp .ge 17, 3) := DX12_canBegin _ _ _ rfl
theorem dX12_canBegin_100 : decode cX12_canBegin 100 = .ok (.iconst 0, 1) := DX12_canBegin _ _ _ rfl
theorem dX12_canBegin_101 : decode cX12_canBegin 101 = .ok (.istore 6, 2) := DX12_canBegin _ _ _ rfl
theorem dX12_canBegin_103 : decode cX12_canBegin 103 = .ok (.iload 6, 2) := DX12_canBegin _ _ _ rfl
theorem dX12_canBegin_105 : decode cX12_canBegin 105 = .ok (.sipush 16384, 3) := DX12_canBegin _ _ _ rfl
theorem dX12_canBegin_108 : decode cX12_canBegin 108 = .ok (.if_icmp .ge 42, 3) := DX12_canBegin _ _ _ rfl
theorem dX12_canBegin_150 : decode cX12_canBegin 150 = .ok (.iconst 0, 1) := DX12_canBegin _ _ _ rfl
theorem dX12_canBegin_151 : decode cX12_canBegin 151 = .ok (.istore 6, 2) := DX12_canBegin _ _ _ rfl
theorem dX12_canBegin_153 : decode cX12_canBegin 153 = .ok (.iload 6, 2) := DX12_canBegin _ _ _ rfl
theorem dX12_canBegin_155 : decode cX12_canBegin 155 = .ok (.sipush 16384, 3) := DX12_canBegin _ _ _ rfl
theorem dX12_canBegin_158 : decode cX12_canBegin 158 = .ok (.if_icmp .ge 45, 3) := DX12_canBegin _ _ _ rfl
theorem dX12_canBegin_203 : decode cX12_canBegin 203 = .ok (.iinc 5 1, 3) := DX12_canBegin _ _ _ rfl
theorem dX12_canBegin_206 : decode cX12_canBegin 206 = .ok (.goto (-146), 3) := DX12_canBegin _ _ _ rfl
theorem dX12_canBegin_161 : decode cX12_canBegin 161 = .ok (.aload_n 0, 1) := DX12_canBegin _ _ _ rfl
theorem dX12_canBegin_162 : decode cX12_canBegin 162 = .ok (.getfield 154, 3) := DX12_canBegin _ _ _ rfl
theorem dX12_canBegin_165 : decode cX12_canBegin 165 = .ok (.iload 6, 2) := DX12_canBegin _ _ _ rfl
theorem dX12_canBegin_167 : decode cX12_canBegin 167 = .ok (.aload_n 0, 1) := DX12_canBegin _ _ _ rfl
theorem dX12_canBegin_168 : decode cX12_canBegin 168 = .ok (.getfield 157, 3) := DX12_canBegin _ _ _ rfl
theorem dX12_canBegin_171 : decode cX12_canBegin 171 = .ok (.iload 6, 2) := DX12_canBegin _ _ _ rfl
theorem dX12_canBegin_173 : decode cX12_canBegin 173 = .ok (.baload, 1) := DX12_canBegin _ _ _ rfl
theorem dX12_canBegin_174 : decode cX12_canBegin 174 = .ok (.bastore, 1) := DX12_canBegin _ _ _ rfl
theorem dX12_canBegin_175 : decode cX12_canBegin 175 = .ok (.iload 4, 2) := DX12_canBegin _ _ _ rfl
theorem dX12_canBegin_177 : decode cX12_canBegin 177 = .ok (.ifCond .ne 13, 3) := DX12_canBegin _ _ _ rfl
theorem dX12_canBegin_190 : decode cX12_canBegin 190 = .ok (.iconst 1, 1) := DX12_canBegin _ _ _ rfl
theorem dX12_canBegin_191 : decode cX12_canBegin 191 = .ok (.goto 4, 3) := DX12_canBegin _ _ _ rfl
theorem dX12_canBegin_195 : decode cX12_canBegin 195 = .ok (.istore 4, 2) := DX12_canBegin _ _ _ rfl
theorem dX12_canBegin_197 : decode cX12_canBegin 197 = .ok (.iinc 6 1, 3) := DX12_canBegin _ _ _ rfl
theorem dX12_canBegin_200 : decode cX12_canBegin 200 = .ok (.goto (-47), 3) := DX12_canBegin _ _ _ rfl
theorem dX12_canBegin_180 : decode cX12_canBegin 180 = .ok (.aload_n 0, 1) := DX12_canBegin _ _ _ rfl
theorem dX12_canBegin_181 : decode cX12_canBegin 181 = .ok (.getfield 154, 3) := DX12_canBegin _ _ _ rfl
theorem dX12_canBegin_184 : decode cX12_canBegin 184 = .ok (.iload 6, 2) := DX12_canBegin _ _ _ rfl
theorem dX12_canBegin_186 : decode cX12_canBegin 186 = .ok (.baload, 1) := DX12_canBegin _ _ _ rfl
theorem dX12_canBegin_187 : decode cX12_canBegin 187 = .ok (.ifCond .eq 7, 3) := DX12_canBegin _ _ _ rfl
theorem dX12_canBegin_194 : decode cX12_canBegin 194 = .ok (.iconst 0, 1) := DX12_canBegin _ _ _ rfl
theorem dX12_canBegin_111 : decode cX12_canBegin 111 = .ok (.aload_n 0, 1) := DX12_canBegin _ _ _ rfl
theorem dX12_canBegin_112 : decode cX12_canBegin 112 = .ok (.getfield 154, 3) := DX12_canBegin _ _ _ rfl
theorem dX12_canBegin_115 : decode cX12_canBegin 115 = .ok (.iload 6, 2) := DX12_canBegin _ _ _ rfl
theorem dX12_canBegin_117 : decode cX12_canBegin 117 = .ok (.baload, 1) := DX12_canBegin _ _ _ rfl
theorem dX12_canBegin_118 : decode cX12_canBegin 118 = .ok (.ifCond .eq 26, 3) := DX12_canBegin _ _ _ rfl
theorem dX12_canBegin_144 : decode cX12_canBegin 144 = .ok (.iinc 6 1, 3) := DX12_canBegin _ _ _ rfl
theorem dX12_canBegin_147 : decode cX12_canBegin 147 = .ok (.goto (-44), 3) := DX12_canBegin _ _ _ rfl
theorem dX12_canBegin_121 : decode cX12_canBegin 121 = .ok (.aload_n 0, 1) := DX12_canBegin _ _ _ rfl
theorem dX12_canBegin_122 : decode cX12_canBegin 122 = .ok (.iload_n 1, 1) := DX12_canBegin _ _ _ rfl
theorem dX12_canBegin_123 : decode cX12_canBegin 123 = .ok (.iload_n 2, 1) := DX12_canBegin _ _ _ rfl
theorem dX12_canBegin_124 : decode cX12_canBegin 124 = .ok (.iload 5, 2) := DX12_canBegin _ _ _ rfl
theorem dX12_canBegin_126 : decode cX12_canBegin 126 = .ok (.iload 6, 2) := DX12_canBegin _ _ _ rfl
theorem dX12_canBegin_128 : decode cX12_canBegin 128 = .ok (.sipush 128, 3) := DX12_canBegin _ _ _ rfl
theorem dX12_canBegin_131 : decode cX12_canBegin 131 = .ok (.idiv, 1) := DX12_canBegin _ _ _ rfl
theorem dX12_canBegin_132 : decode cX12_canBegin 132 = .ok (.iload 6, 2) := DX12_canBegin _ _ _ rfl
theorem dX12_canBegin_134 : decode cX12_canBegin 134 = .ok (.sipush 128, 3) := DX12_canBegin _ _ _ rfl
theorem dX12_canBegin_137 : decode cX12_canBegin 137 = .ok (.irem, 1) := DX12_canBegin _ _ _ rfl
theorem dX12_canBegin_138 : decode cX12_canBegin 138 = .ok (.iconst 0, 1) := DX12_canBegin _ _ _ rfl
theorem dX12_canBegin_139 : decode cX12_canBegin 139 = .ok (.iconst 0, 1) := DX12_canBegin _ _ _ rfl
theorem dX12_canBegin_140 : decode cX12_canBegin 140 = .ok (.iconst 0, 1) := DX12_canBegin _ _ _ rfl
theorem dX12_canBegin_141 : decode cX12_canBegin 141 = .ok (.invokevirtual 404, 3) := DX12_canBegin _ _ _ rfl
theorem dX12_canBegin_86 : decode cX12_canBegin 86 = .ok (.aload_n 0, 1) := DX12_canBegin _ _ _ rfl
theorem dX12_canBegin_87 : decode cX12_canBegin 87 = .ok (.getfield 157, 3) := DX12_canBegin _ _ _ rfl
theorem dX12_canBegin_90 : decode cX12_canBegin 90 = .ok (.iload 6, 2) := DX12_canBegin _ _ _ rfl
theorem dX12_canBegin_92 : decode cX12_canBegin 92 = .ok (.iconst 0, 1) := DX12_canBegin _ _ _ rfl
theorem dX12_canBegin_93 : decode cX12_canBegin 93 = .ok (.bastore, 1) := DX12_canBegin _ _ _ rfl
theorem dX12_canBegin_94 : decode cX12_canBegin 94 = .ok (.iinc 6 1, 3) := DX12_canBegin _ _ _ rfl
theorem dX12_canBegin_97 : decode cX12_canBegin 97 = .ok (.goto (-19), 3) := DX12_canBegin _ _ _ rfl
theorem dX12_canBegin_26 : decode cX12_canBegin 26 = .ok (.aload_n 0, 1) := DX12_canBegin _ _ _ rfl
theorem dX12_canBegin_27 : decode cX12_canBegin 27 = .ok (.getfield 154, 3) := DX12_canBegin _ _ _ rfl
theorem dX12_canBegin_30 : decode cX12_canBegin 30 = .ok (.iload 4, 2) := DX12_canBegin _ _ _ rfl
theorem dX12_canBegin_32 : decode cX12_canBegin 32 = .ok (.iload 4, 2) := DX12_canBegin _ _ _ rfl
theorem dX12_canBegin_34 : decode cX12_canBegin 34 = .ok (.sipush 128, 3) := DX12_canBegin _ _ _ rfl
theorem dX12_canBegin_37 : decode cX12_canBegin 37 = .ok (.iload_n 3, 1) := DX12_canBegin _ _ _ rfl
theorem dX12_canBegin_38 : decode cX12_canBegin 38 = .ok (.ishl, 1) := DX12_canBegin _ _ _ rfl
theorem dX12_canBegin_39 : decode cX12_canBegin 39 = .ok (.if_icmp .ne 7, 3) := DX12_canBegin _ _ _ rfl
theorem dX12_canBegin_46 : decode cX12_canBegin 46 = .ok (.iconst 0, 1) := DX12_canBegin _ _ _ rfl
theorem dX12_canBegin_47 : decode cX12_canBegin 47 = .ok (.bastore, 1) := DX12_canBegin _ _ _ rfl
theorem dX12_canBegin_48 : decode cX12_canBegin 48 = .ok (.iinc 4 1, 3) := DX12_canBegin _ _ _ rfl
theorem dX12_canBegin_51 : decode cX12_canBegin 51 = .ok (.goto (-33), 3) := DX12_canBegin _ _ _ rfl
theorem dX12_canBegin_42 : decode cX12_canBegin 42 = .ok (.iconst 1, 1) := DX12_canBegin _ _ _ rfl
theorem dX12_canBegin_43 : decode cX12_canBegin 43 = .ok (.goto 4, 3) := DX12_canBegin _ _ _ rfl
theorem dX12_canBegin_13 : decode cX12_canBegin 13 = .ok (.iconst 0, 1) := DX12_canBegin _ _ _ rfl
theorem dX12_canBegin_14 : decode cX12_canBegin 14 = .ok (.ireturn, 1) := DX12_canBegin _ _ _ rfl
theorem dX12_who_11 : decode cX12_who 11 = .ok (.iconst 0, 1) := DX12_who _ _ _ rfl
theorem dX12_who_12 : decode cX12_who 12 = .ok (.istore_n 3, 1) := DX12_who _ _ _ rfl
theorem dX12_who_13 : decode cX12_who 13 = .ok (.iconst 0, 1) := DX12_who _ _ _ rfl
theorem dX12_who_14 : decode cX12_who 14 = .ok (.istore 4, 2) := DX12_who _ _ _ rfl
theorem dX12_who_16 : decode cX12_who 16 = .ok (.iload 4, 2) := DX12_who _ _ _ rfl
theorem dX12_who_18 : decode cX12_who 18 = .ok (.aload_n 0, 1) := DX12_who _ _ _ rfl
theorem dX12_who_19 : decode cX12_who 19 = .ok (.getfield 13, 3) := DX12_who _ _ _ rfl
theorem dX12_who_22 : decode cX12_who 22 = .ok (.iload_n 1, 1) := DX12_who _ _ _ rfl
theorem dX12_who_23 : decode cX12_who 23 = .ok (.iaload, 1) := DX12_who _ _ _ rfl
theorem dX12_who_24 : decode cX12_who 24 = .ok (.if_icmp .ge 31, 3) := DX12_who _ _ _ rfl
theorem dX12_who_55 : decode cX12_who 55 = .ok (.iload_n 3, 1) := DX12_who _ _ _ rfl
theorem dX12_who_56 : decode cX12_who 56 = .ok (.ireturn, 1) := DX12_who _ _ _ rfl
theorem dX12_who_27 : decode cX12_who 27 = .ok (.iload_n 3, 1) := DX12_who _ _ _ rfl
theorem dX12_who_28 : decode cX12_who 28 = .ok (.aload_n 0, 1) := DX12_who _ _ _ rfl
theorem dX12_who_29 : decode cX12_who 29 = .ok (.iload_n 1, 1) := DX12_who _ _ _ rfl
theorem dX12_who_30 : decode cX12_who 30 = .ok (.iload_n 2, 1) := DX12_who _ _ _ rfl
theorem dX12_who_31 : decode cX12_who 31 = .ok (.iload 4, 2) := DX12_who _ _ _ rfl
theorem dX12_who_33 : decode cX12_who 33 = .ok (.invokevirtual 408, 3) := DX12_who _ _ _ rfl
theorem dX12_who_36 : decode cX12_who 36 = .ok (.ifCond .eq 10, 3) := DX12_who _ _ _ rfl
theorem dX12_who_46 : decode cX12_who 46 = .ok (.iconst 0, 1) := DX12_who _ _ _ rfl
theorem dX12_who_47 : decode cX12_who 47 = .ok (.ior, 1) := DX12_who _ _ _ rfl
theorem dX12_who_48 : decode cX12_who 48 = .ok (.istore_n 3, 1) := DX12_who _ _ _ rfl
theorem dX12_who_49 : decode cX12_who 49 = .ok (.iinc 4 1, 3) := DX12_who _ _ _ rfl
theorem dX12_who_52 : decode cX12_who 52 = .ok (.goto (-36), 3) := DX12_who _ _ _ rfl
theorem dX12_who_39 : decode cX12_who 39 = .ok (.iconst 1, 1) := DX12_who _ _ _ rfl
theorem dX12_who_40 : decode cX12_who 40 = .ok (.iload 4, 2) := DX12_who _ _ _ rfl
theorem dX12_who_42 : decode cX12_who 42 = .ok (.ishl, 1) := DX12_who _ _ _ rfl
theorem dX12_who_43 : decode cX12_who 43 = .ok (.goto 4, 3) := DX12_who _ _ _ rfl
def L1_X12_isAsTold (tA : Nat → Int32) (pe : Nat) (i : Nat) (ni : Nat) (kw : Int32) (h : Nat) : Nat → Nat → Int32
  | 0, _ => (0)
  | m_ + 1, j1 => if nI pe ≤ nI j1 then ((1 : Int32)) else (if F_X12_taleOf tA i ni j1 = (-1) then (L1_X12_isAsTold tA pe i ni kw h m_ (j1 + 1) ) else (if nI h < F_X12_taleOf tA i ni j1 then (if (kw >>> ((nI j1) &&& 31)) &&& (1 : Int32) = 1 then ((0 : Int32)) else (L1_X12_isAsTold tA pe i ni kw h m_ (j1 + 1) )) else (if (kw >>> ((nI j1) &&& 31)) &&& (1 : Int32) = 1 then (L1_X12_isAsTold tA pe i ni kw h m_ (j1 + 1) ) else ((0 : Int32)))))
def F_X12_isAsTold (tA : Nat → Int32) (pe : Nat) (i : Nat) (ni : Nat) (kw : Int32) (h : Nat) : Int32 := L1_X12_isAsTold tA pe i ni kw h (pe + 1) 0 
set_option maxHeartbeats 4000000 in
set_option maxRecDepth 100000 in
theorem K_X12_isAsTold (l : Launch) (g : GG) (h0 : Nat) (vs : List Value) (b6 : Nat) (rP : Nat → Int32) (b61 : Nat) (tA : Nat → Int32) (pe : Nat) (i : Nat) (ni : Nat) (kw : Int32) (h : Nat) (hlen : vs.length = 64) (h6_ : vs[6]? = some (.ref b6)) (h61_ : vs[61]? = some (.ref b61)) (hi : i < 11) (hpe : pe ≤ 7) (hP : rP i = nI pe) (hni : ni < 4) : MetI l g yX12_isAsTold cX12_isAsTold 7 (some .boolean) 1 0 0 [.ref h0, .int (nI i), .int (nI ni), .int kw, .int (nI h)] [(h0, .inr (12, vs)), (b6, .inl (g.2.1 1, 11, .inl rP)), (b61, .inl (g.2.1 1, 308, .inl tA))] (fun r u => r = (F_X12_isAsTold tA pe i ni kw h) ∧ u = [(h0, .inr (12, vs)), (b6, .inl (g.2.1 1, 11, .inl rP)), (b61, .inl (g.2.1 1, 308, .inl tA))]) := by
  refine MetI.of (own := RX12) rfl (by decide) (Nat.le_of_ble_eq_true rfl) ?_
  intro p e s m below meth c A ls args Q hQ X hr hin hW hl
  have hx := X.1
  have hb := X.2.1
  have hl : lv_has ls 7 [(0, .ref h0), (1, .int (nI i)), (2, .int (nI ni)), (3, .int kw), (4, .int (nI h))] := hl
  refine lv_iconst (v := 0) (pc := 0) hx hb dX12_isAsTold_0 (by decide) ?_
  refine lv_istore (lv' := [(5, .int 0), (0, .ref h0), (1, .int (nI i)), (2, .int (nI ni)), (3, .int kw), (4, .int (nI h))]) (pc := 1) hx hb dX12_isAsTold_1 hl (by decide) rfl (fun ls hl => ?_)
  have loop1 : ∀ (fu1 : Nat) (j1 : Nat), (pe < fu1 + j1) → (j1 ≤ pe) → (L1_X12_isAsTold tA pe i ni kw h fu1 j1 = F_X12_isAsTold tA pe i ni kw h) → ∀ (H : Heap) (locs : List Loc) (ls : Array Slot), WD g A s H locs [(h0, .inr (12, vs)), (b6, .inl (g.2.1 1, 11, .inl rP)), (b61, .inl (g.2.1 1, 308, .inl tA))] → lv_has ls 7 [(5, .int (nI j1)), (0, .ref h0), (1, .int (nI i)), (2, .int (nI ni)), (3, .int kw), (4, .int (nI h))] → W p l e (RM 1 0 0) s m args below meth c H locs 0 0 Q (F0 m 3 ls []) := by
    intro fu1
    induction fu1 with
    | zero =>
      intro j1 hm1 hj1 hst1
      exact absurd hm1 (by omega)
    | succ fu1 ih1 =>
      intro j1 hm1 hj1 hst1 H locs ls hW hl
      refine lv_iload (pc := 3) hx hb dX12_isAsTold_3 (lv_at hl 0 rfl) ?_
      refine lv_aload_n (pc := 5) hx hb dX12_isAsTold_5 rfl (lv_at hl 1 rfl) ?_
      refine r_get X hW 0 ciX12 6 rfl (by decide) m_1237 rfl h6_ dX12_isAsTold_6 ?_
      refine lv_iload_n (pc := 9) hx hb dX12_isAsTold_9 rfl (lv_at hl 2 rfl) ?_
      refine r_iald X hW 1 rfl (vp_in_nI (by omega) (by decide)) dX12_isAsTold_10 ?_
      refine lv_topi (fun v1 ev1 => ?_)
      obtain rfl : v1 = rP i := ev1.trans (by rw [nI_clamp (by omega)])
      rw [hP]
      refine lv_icmp_ge (tgt := 68) (pc := 11) hx hb dX12_isAsTold_11 rfl (fun c2 => ?_) (fun c2 => ?_)
      · have h3 : pe ≤ j1 := (nI_leI (a := pe) (b := j1) (by omega) (by omega)).mp c2
        refine lv_iconst (v := 1) (pc := 68) hx hb dX12_isAsTold_68 (by decide) ?_
        have hF : F_X12_isAsTold tA pe i ni kw h = (1 : Int32) := hst1.symm.trans (show L1_X12_isAsTold tA pe i ni kw h (fu1 + 1) j1 = (1 : Int32) from by rw [L1_X12_isAsTold, if_pos c2])
        exact e_z (u := [(h0, .inr (12, vs)), (b6, .inl (g.2.1 1, 11, .inl rP)), (b61, .inl (g.2.1 1, 308, .inl tA))]) X hQ hr (hW) rfl [0, 1, 2] rfl rfl (⟨hF.symm, rfl⟩) ⟨Nat.le_of_ble_eq_true rfl, Nat.le_of_ble_eq_true rfl⟩ dX12_isAsTold_69
      · have h4 : ¬ (pe ≤ j1) := fun q => c2 ((nI_leI (a := pe) (b := j1) (by omega) (by omega)).mpr q)
        refine lv_aload_n (pc := 14) hx hb dX12_isAsTold_14 rfl (lv_at hl 1 rfl) ?_
        refine lv_iload_n (pc := 15) hx hb dX12_isAsTold_15 rfl (lv_at hl 2 rfl) ?_
        refine lv_iload_n (pc := 16) hx hb dX12_isAsTold_16 rfl (lv_at hl 3 rfl) ?_
        refine lv_iload (pc := 17) hx hb dX12_isAsTold_17 (lv_at hl 0 rfl) ?_
        refine c_Vi (pc := 19) (As := [.int (nI i), .int (nI ni), .int (nI j1)]) (rest := []) (wr := [(b6, .inl (g.2.1 1, 11, .inl rP))]) X hW 0 ciX12 rfl (K_X12_taleOf l g h0 vs b61 tA i ni j1 hlen h61_ (by omega) hni (by omega)) vX12_398 [0, 2] [1] rfl rfl rfl rfl rfl rfl hl.1 rfl (Nat.le_of_ble_eq_true rfl) ⟨Nat.le_of_ble_eq_true rfl, Nat.le_of_ble_eq_true rfl⟩ ⟨Nat.le_of_ble_eq_true rfl, Nat.le_of_ble_eq_true rfl⟩ dX12_isAsTold_19 (fun r5 u9 H locs hq hW => ?_)
        obtain ⟨rfl, rfl⟩ := hq
        have hW : WD g A s _ _ [(b6, .inl (g.2.1 1, 11, .inl rP)), (h0, .inr (12, vs)), (b61, .inl (g.2.1 1, 308, .inl tA))] := hW
        refine lv_istore (lv' := [(6, .int (F_X12_taleOf tA i ni j1)), (5, .int (nI j1)), (0, .ref h0), (1, .int (nI i)), (2, .int (nI ni)), (3, .int kw), (4, .int (nI h))]) (pc := 22) hx hb dX12_isAsTold_22 hl (by decide) rfl (fun ls hl => ?_)
        refine lv_iload (pc := 24) hx hb dX12_isAsTold_24 (lv_at hl 0 rfl) ?_
        refine lv_iconst (v := (-1)) (pc := 26) hx hb dX12_isAsTold_26 (by decide) ?_
        refine lv_icmp_eq (tgt := 62) (pc := 27) hx hb dX12_isAsTold_27 rfl (fun c6 => ?_) (fun c6 => ?_)
        · refine lv_iinc (v := nI (j1 + 1)) (lv' := [(5, .int (nI (j1 + 1))), (6, .int (F_X12_taleOf tA i ni j1)), (0, .ref h0), (1, .int (nI i)), (2, .int (nI ni)), (3, .int kw), (4, .int (nI h))]) (pc := 62) hx hb dX12_isAsTold_62 hl (k := 1) rfl (nI_add j1 1) (by decide) rfl (fun ls hl => ?_)
          refine lv_goto (tgt := 3) (pc := 65) hx hb dX12_isAsTold_65 rfl ?_
          have hW : WD g A s _ _ [(h0, .inr (12, vs)), (b6, .inl (g.2.1 1, 11, .inl rP)), (b61, .inl (g.2.1 1, 308, .inl tA))] := hW.pick [1, 0, 2] rfl rfl
          exact ih1 (j1 + 1)  (by omega) (by omega) ((show L1_X12_isAsTold tA pe i ni kw h (fu1 + 1) j1 = L1_X12_isAsTold tA pe i ni kw h fu1 (j1 + 1)  from by rw [L1_X12_isAsTold, if_neg c2, if_pos c6]).symm.trans hst1) _ _ _ hW (lv_sub hl [0, 2, 3, 4, 5, 6] rfl)
        · refine lv_iload (pc := 30) hx hb dX12_isAsTold_30 (lv_at hl 0 rfl) ?_
          refine lv_iload (pc := 32) hx hb dX12_isAsTold_32 (lv_at hl 6 rfl) ?_
          refine lv_icmp_gt (tgt := 41) (pc := 34) hx hb dX12_isAsTold_34 rfl (fun c9 => ?_) (fun c9 => ?_)
          · refine lv_iconst (v := 0) (pc := 41) hx hb dX12_isAsTold_41 (by decide) ?_
            refine lv_iload_n (pc := 42) hx hb dX12_isAsTold_42 rfl (lv_at hl 5 rfl) ?_
            refine lv_iload (pc := 43) hx hb dX12_isAsTold_43 (lv_at hl 1 rfl) ?_
            refine lv_ishr (pc := 45) hx hb dX12_isAsTold_45 ?_
            refine lv_iconst (v := 1) (pc := 46) hx hb dX12_isAsTold_46 (by decide) ?_
            refine lv_iand (pc := 47) hx hb dX12_isAsTold_47 ?_
            refine lv_iconst (v := 1) (pc := 48) hx hb dX12_isAsTold_48 (by decide) ?_
            refine lv_icmp_ne (tgt := 56) (pc := 49) hx hb dX12_isAsTold_49 rfl (fun c11 => ?_) (fun c11 => ?_)
            · refine lv_iconst (v := 0) (pc := 56) hx hb dX12_isAsTold_56 (by decide) ?_
              refine lv_icmp_eq (tgt := 62) (pc := 57) hx hb dX12_isAsTold_57 rfl (fun c13 => ?_) (fun c13 => absurd (by decide) c13)
              refine lv_iinc (v := nI (j1 + 1)) (lv' := [(5, .int (nI (j1 + 1))), (6, .int (F_X12_taleOf tA i ni j1)), (0, .ref h0), (1, .int (nI i)), (2, .int (nI ni)), (3, .int kw), (4, .int (nI h))]) (pc := 62) hx hb dX12_isAsTold_62 hl (k := 1) rfl (nI_add j1 1) (by decide) rfl (fun ls hl => ?_)
              refine lv_goto (tgt := 3) (pc := 65) hx hb dX12_isAsTold_65 rfl ?_
              have hW : WD g A s _ _ [(h0, .inr (12, vs)), (b6, .inl (g.2.1 1, 11, .inl rP)), (b61, .inl (g.2.1 1, 308, .inl tA))] := hW.pick [1, 0, 2] rfl rfl
              exact ih1 (j1 + 1)  (by omega) (by omega) ((show L1_X12_isAsTold tA pe i ni kw h (fu1 + 1) j1 = L1_X12_isAsTold tA pe i ni kw h fu1 (j1 + 1)  from by rw [L1_X12_isAsTold, if_neg c2, if_neg c6, if_pos c9, if_neg c11]).symm.trans hst1) _ _ _ hW (lv_sub hl [0, 2, 3, 4, 5, 6] rfl)
            · refine lv_iconst (v := 1) (pc := 52) hx hb dX12_isAsTold_52 (by decide) ?_
              refine lv_goto (tgt := 57) (pc := 53) hx hb dX12_isAsTold_53 rfl ?_
              refine lv_icmp_eq (tgt := 62) (pc := 57) hx hb dX12_isAsTold_57 rfl (fun c15 => absurd c15 (by decide)) (fun c15 => ?_)
              refine lv_iconst (v := 0) (pc := 60) hx hb dX12_isAsTold_60 (by decide) ?_
              have hF : F_X12_isAsTold tA pe i ni kw h = (0 : Int32) := hst1.symm.trans (show L1_X12_isAsTold tA pe i ni kw h (fu1 + 1) j1 = (0 : Int32) from by rw [L1_X12_isAsTold, if_neg c2, if_neg c6, if_pos c9, if_pos c11])
              exact e_z (u := [(h0, .inr (12, vs)), (b6, .inl (g.2.1 1, 11, .inl rP)), (b61, .inl (g.2.1 1, 308, .inl tA))]) X hQ hr (hW) rfl [1, 0, 2] rfl rfl (⟨hF.symm, rfl⟩) ⟨Nat.le_of_ble_eq_true rfl, Nat.le_of_ble_eq_true rfl⟩ dX12_isAsTold_61
          · refine lv_iconst (v := 1) (pc := 37) hx hb dX12_isAsTold_37 (by decide) ?_
            refine lv_goto (tgt := 42) (pc := 38) hx hb dX12_isAsTold_38 rfl ?_
            refine lv_iload_n (pc := 42) hx hb dX12_isAsTold_42 rfl (lv_at hl 5 rfl) ?_
            refine lv_iload (pc := 43) hx hb dX12_isAsTold_43 (lv_at hl 1 rfl) ?_
            refine lv_ishr (pc := 45) hx hb dX12_isAsTold_45 ?_
            refine lv_iconst (v := 1) (pc := 46) hx hb dX12_isAsTold_46 (by decide) ?_
            refine lv_iand (pc := 47) hx hb dX12_isAsTold_47 ?_
            refine lv_iconst (v := 1) (pc := 48) hx hb dX12_isAsTold_48 (by decide) ?_
            refine lv_icmp_ne (tgt := 56) (pc := 49) hx hb dX12_isAsTold_49 rfl (fun c17 => ?_) (fun c17 => ?_)
            · refine lv_iconst (v := 0) (pc := 56) hx hb dX12_isAsTold_56 (by decide) ?_
              refine lv_icmp_eq (tgt := 62) (pc := 57) hx hb dX12_isAsTold_57 rfl (fun c19 => absurd c19 (by decide)) (fun c19 => ?_)
              refine lv_iconst (v := 0) (pc := 60) hx hb dX12_isAsTold_60 (by decide) ?_
              have hF : F_X12_isAsTold tA pe i ni kw h = (0 : Int32) := hst1.symm.trans (show L1_X12_isAsTold tA pe i ni kw h (fu1 + 1) j1 = (0 : Int32) from by rw [L1_X12_isAsTold, if_neg c2, if_neg c6, if_neg c9, if_neg c17])
              exact e_z (u := [(h0, .inr (12, vs)), (b6, .inl (g.2.1 1, 11, .inl rP)), (b61, .inl (g.2.1 1, 308, .inl tA))]) X hQ hr (hW) rfl [1, 0, 2] rfl rfl (⟨hF.symm, rfl⟩) ⟨Nat.le_of_ble_eq_true rfl, Nat.le_of_ble_eq_true rfl⟩ dX12_isAsTold_61
            · refine lv_iconst (v := 1) (pc := 52) hx hb dX12_isAsTold_52 (by decide) ?_
              refine lv_goto (tgt := 57) (pc := 53) hx hb dX12_isAsTold_53 rfl ?_
              refine lv_icmp_eq (tgt := 62) (pc := 57) hx hb dX12_isAsTold_57 rfl (fun c21 => ?_) (fun c21 => absurd (by decide) c21)
              refine lv_iinc (v := nI (j1 + 1)) (lv' := [(5, .int (nI (j1 + 1))), (6, .int (F_X12_taleOf tA i ni j1)), (0, .ref h0), (1, .int (nI i)), (2, .int (nI ni)), (3, .int kw), (4, .int (nI h))]) (pc := 62) hx hb dX12_isAsTold_62 hl (k := 1) rfl (nI_add j1 1) (by decide) rfl (fun ls hl => ?_)
              refine lv_goto (tgt := 3) (pc := 65) hx hb dX12_isAsTold_65 rfl ?_
              have hW : WD g A s _ _ [(h0, .inr (12, vs)), (b6, .inl (g.2.1 1, 11, .inl rP)), (b61, .inl (g.2.1 1, 308, .inl tA))] := hW.pick [1, 0, 2] rfl rfl
              exact ih1 (j1 + 1)  (by omega) (by omega) ((show L1_X12_isAsTold tA pe i ni kw h (fu1 + 1) j1 = L1_X12_isAsTold tA pe i ni kw h fu1 (j1 + 1)  from by rw [L1_X12_isAsTold, if_neg c2, if_neg c6, if_neg c9, if_pos c17]).symm.trans hst1) _ _ _ hW (lv_sub hl [0, 2, 3, 4, 5, 6] rfl)
  exact loop1 (pe + 1) 0  (by omega) (by omega) (show F_X12_isAsTold tA pe i ni kw h = L1_X12_isAsTold tA pe i ni kw h (pe + 1) 0  from rfl).symm _ _ _ hW (lv_sub hl [0, 1, 2, 3, 4, 5] rfl)

abbrev GRT : Type := Nat → Int32 → Int32 → (Nat → Int32) → (Nat → Int32)
def L1_X12_goRowss (rS : Nat → Int32) (rA : Nat → Int32) (rB : Nat → Int32) (rF : Nat → Int32) (rT : Nat → Int32) (rW : Nat → Int32) (rO : Nat → Int32) (lc : Nat) (i : Nat) (ni : Nat) (h : Nat) (kw : Int32) (fj : Nat) (bu : Int32) (ca : Int32) (R : GRT) (j1 : Nat) (fb63_1 : Nat → Int32) : (Nat → Int32) := if nI j1 = nI fj then (fb63_1) else (if (((bu ||| (rS (4 * i + ni))) ||| kw) >>> ((nI j1) &&& 31)) &&& (1 : Int32) = 1 then (fb63_1) else (if F_X12_mayCall rA rB rF rT rW rO lc i fj j1 (nI h) = 0 then (fb63_1) else ((R (fj + 1) ((bu ||| ((1 : Int32) <<< ((nI fj) &&& 31))) ||| ((1 : Int32) <<< ((nI j1) &&& 31))) (ca ||| ((1 : Int32) <<< ((nI j1) &&& 31))) fb63_1))))
def L1_X12_goRows (rS : Nat → Int32) (rA : Nat → Int32) (rB : Nat → Int32) (rF : Nat → Int32) (rT : Nat → Int32) (rW : Nat → Int32) (rO : Nat → Int32) (lc : Nat) (i : Nat) (ni : Nat) (h : Nat) (kw : Int32) (fj : Nat) (bu : Int32) (ca : Int32) (R : GRT) (i0_ : Nat → Int32) : Nat → (Nat → Int32)
  | 0 => (i0_)
  | k_ + 1 => L1_X12_goRowss rS rA rB rF rT rW rO lc i ni h kw fj bu ca R k_ (L1_X12_goRows rS rA rB rF rT rW rO lc i ni h kw fj bu ca R i0_ k_)
def F_X12_goRows (rS : Nat → Int32) (rA : Nat → Int32) (rB : Nat → Int32) (rF : Nat → Int32) (rT : Nat → Int32) (rW : Nat → Int32) (rO : Nat → Int32) (dN : Nat → Int32) (lc : Nat) (pe : Nat) (i : Nat) (ni : Nat) (h : Nat) (kw : Int32) (fj : Nat) (bu : Int32) (ca : Int32) (R : GRT) : (Nat → Int32) := if (kw >>> ((nI fj) &&& 31)) &&& (1 : Int32) = 1 then (if ((rS (4 * i + ni)) >>> ((nI fj) &&& 31)) &&& (1 : Int32) = 0 then (if (bu >>> ((nI fj) &&& 31)) &&& (1 : Int32) = 0 then ((R (fj + 1) bu ca (L1_X12_goRows rS rA rB rF rT rW rO lc i ni h kw fj bu ca R dN pe))) else ((R (fj + 1) bu ca dN))) else ((R (fj + 1) bu ca dN))) else ((R (fj + 1) bu ca dN))
set_option maxHeartbeats 4000000 in
set_option maxRecDepth 100000 in
theorem K_X12_goRows (l : Launch) (g : GG) (h0 : Nat) (vs : List Value) (b6 : Nat) (rP : Nat → Int32) (b7 : Nat) (rL : Nat → Int32) (b8 : Nat) (rD : Nat → Int32) (b11 : Nat) (rS : Nat → Int32) (b12 : Nat) (rA : Nat → Int32) (b13 : Nat) (rB : Nat → Int32) (b14 : Nat) (rF : Nat → Int32) (b15 : Nat) (rT : Nat → Int32) (b16 : Nat) (rW : Nat → Int32) (b17 : Nat) (rO : Nat → Int32) (b61 : Nat) (tA : Nat → Int32) (b63 : Nat) (dN : Nat → Int32) (lc : Nat) (pe : Nat) (i : Nat) (ni : Nat) (h : Nat) (kw : Int32) (oz : Int32) (fj : Nat) (bu : Int32) (ca : Int32) (R : GRT) (dd : Nat) (hdd : 1 ≤ dd) (hlen : vs.length = 64) (h6_ : vs[6]? = some (.ref b6)) (h7_ : vs[7]? = some (.ref b7)) (h8_ : vs[8]? = some (.ref b8)) (h11_ : vs[11]? = some (.ref b11)) (h12_ : vs[12]? = some (.ref b12)) (h13_ : vs[13]? = some (.ref b13)) (h14_ : vs[14]? = some (.ref b14)) (h15_ : vs[15]? = some (.ref b15)) (h16_ : vs[16]? = some (.ref b16)) (h17_ : vs[17]? = some (.ref b17)) (h61_ : vs[61]? = some (.ref b61)) (h63_ : vs[63]? = some (.ref b63)) (hi : i < 11) (hlc : lc ≤ 12) (hL : rL i = nI lc) (hpe : pe ≤ 7) (hP : rP i = nI pe) (hni : ni < 4) (h19_ : vs[19]? = some (.int (-1))) (h20_ : vs[20]? = some (.int (-1))) (hlt : fj < pe) (hh : h ≤ 24) (hkw : s7 kw) (hoz : s7 oz) (hca : s7 ca) (hrec : ∀ (N : Nat → Int32) (bu ca : Int32), s7 ca → MetV l g yX12_goRows cX12_goRows 12 none dd 0 0 [.ref h0, .int (nI i), .int (nI ni), .int (nI h), .int kw, .int oz, .int (nI (fj + 1)), .int bu, .int ca] [(h0, .inr (12, vs)), (b6, .inl (g.2.1 1, 11, .inl rP)), (b7, .inl (g.2.1 1, 11, .inl rL)), (b8, .inl (g.2.1 1, 11, .inl rD)), (b11, .inl (g.2.1 1, 44, .inl rS)), (b12, .inl (g.2.1 1, 132, .inl rA)), (b13, .inl (g.2.1 1, 132, .inl rB)), (b14, .inl (g.2.1 1, 132, .inl rF)), (b15, .inl (g.2.1 1, 132, .inl rT)), (b16, .inl (g.2.1 1, 132, .inl rW)), (b17, .inl (g.2.1 3, 132, .inl rO)), (b61, .inl (g.2.1 1, 308, .inl tA)), (b63, .inl (g.2.1 3, 16384, .inl N))] (fun u => u = [(h0, .inr (12, vs)), (b6, .inl (g.2.1 1, 11, .inl rP)), (b7, .inl (g.2.1 1, 11, .inl rL)), (b8, .inl (g.2.1 1, 11, .inl rD)), (b11, .inl (g.2.1 1, 44, .inl rS)), (b12, .inl (g.2.1 1, 132, .inl rA)), (b13, .inl (g.2.1 1, 132, .inl rB)), (b14, .inl (g.2.1 1, 132, .inl rF)), (b15, .inl (g.2.1 1, 132, .inl rT)), (b16, .inl (g.2.1 1, 132, .inl rW)), (b17, .inl (g.2.1 3, 132, .inl rO)), (b61, .inl (g.2.1 1, 308, .inl tA)), (b63, .inl (g.2.1 3, 16384, .inl (R (fj + 1) bu ca N)))])) : MetV l g yX12_goRows cX12_goRows 12 none (dd + 1) 0 0 [.ref h0, .int (nI i), .int (nI ni), .int (nI h), .int kw, .int oz, .int (nI fj), .int bu, .int ca] [(h0, .inr (12, vs)), (b6, .inl (g.2.1 1, 11, .inl rP)), (b7, .inl (g.2.1 1, 11, .inl rL)), (b8, .inl (g.2.1 1, 11, .inl rD)), (b11, .inl (g.2.1 1, 44, .inl rS)), (b12, .inl (g.2.1 1, 132, .inl rA)), (b13, .inl (g.2.1 1, 132, .inl rB)), (b14, .inl (g.2.1 1, 132, .inl rF)), (b15, .inl (g.2.1 1, 132, .inl rT)), (b16, .inl (g.2.1 1, 132, .inl rW)), (b17, .inl (g.2.1 3, 132, .inl rO)), (b61, .inl (g.2.1 1, 308, .inl tA)), (b63, .inl (g.2.1 3, 16384, .inl dN))] (fun u => u = [(h0, .inr (12, vs)), (b6, .inl (g.2.1 1, 11, .inl rP)), (b7, .inl (g.2.1 1, 11, .inl rL)), (b8, .inl (g.2.1 1, 11, .inl rD)), (b11, .inl (g.2.1 1, 44, .inl rS)), (b12, .inl (g.2.1 1, 132, .inl rA)), (b13, .inl (g.2.1 1, 132, .inl rB)), (b14, .inl (g.2.1 1, 132, .inl rF)), (b15, .inl (g.2.1 1, 132, .inl rT)), (b16, .inl (g.2.1 1, 132, .inl rW)), (b17, .inl (g.2.1 3, 132, .inl rO)), (b61, .inl (g.2.1 1, 308, .inl tA)), (b63, .inl (g.2.1 3, 16384, .inl (F_X12_goRows rS rA rB rF rT rW rO dN lc pe i ni h kw fj bu ca R)))]) := by
  refine MetV.of (own := RX12) rfl (by decide) (Nat.le_of_ble_eq_true rfl) ?_
  intro p e s m below meth c A ls args Q hQ X hr hin hW hl
  have hx := X.1
  have hb := X.2.1
  have hl : lv_has ls 12 [(0, .ref h0), (1, .int (nI i)), (2, .int (nI ni)), (3, .int (nI h)), (4, .int kw), (5, .int oz), (6, .int (nI fj)), (7, .int bu), (8, .int ca)] := hl
  refine lv_iload (pc := 0) hx hb dX12_goRows_0 (lv_at hl 6 rfl) ?_
  refine lv_aload_n (pc := 2) hx hb dX12_goRows_2 rfl (lv_at hl 0 rfl) ?_
  refine r_get X hW 0 ciX12 6 rfl (by decide) m_1237 rfl h6_ dX12_goRows_3 ?_
  refine lv_iload_n (pc := 6) hx hb dX12_goRows_6 rfl (lv_at hl 1 rfl) ?_
  refine r_iald X hW 1 rfl (vp_in_nI (by omega) (by decide)) dX12_goRows_7 ?_
  refine lv_topi (fun v1 ev1 => ?_)
  obtain rfl : v1 = rP i := ev1.trans (by rw [nI_clamp (by omega)])
  rw [hP]
  refine lv_icmp_ne (tgt := 86) (pc := 8) hx hb dX12_goRows_8 rfl (fun c2 => ?_) (fun c2 => absurd c2 (fun q => absurd ((nI_eq (a := fj) (b := pe) (by omega) (by omega)).mp q) (by omega)))
  refine lv_aload_n (pc := 86) hx hb dX12_goRows_86 rfl (lv_at hl 0 rfl) ?_
  refine r_get X hW 0 ciX12 11 rfl (by decide) m_1242 rfl h11_ dX12_goRows_87 ?_
  refine lv_iconst (v := 4) (pc := 90) hx hb dX12_goRows_90 (by decide) ?_
  refine lv_iload_n (pc := 91) hx hb dX12_goRows_91 rfl (lv_at hl 1 rfl) ?_
  refine lv_imul (pc := 92) hx hb dX12_goRows_92 ?_
  refine lv_topi (fun v3 ev3 => ?_)
  obtain rfl : v3 = nI (4 * i) := ev3.trans (pk_mul 4 i)
  refine lv_iload_n (pc := 93) hx hb dX12_goRows_93 rfl (lv_at hl 2 rfl) ?_
  refine lv_iadd (pc := 94) hx hb dX12_goRows_94 ?_
  refine lv_topi (fun v4 ev4 => ?_)
  obtain rfl : v4 = nI (4 * i + ni) := ev4.trans (nI_add _ _)
  refine r_iald X hW 4 rfl (vp_in_nI (by omega) (by decide)) dX12_goRows_95 ?_
  refine lv_topi (fun v5 ev5 => ?_)
  obtain rfl : v5 = rS (4 * i + ni) := ev5.trans (by rw [nI_clamp (by omega)])
  refine lv_istore (lv' := [(9, .int (rS (4 * i + ni))), (0, .ref h0), (1, .int (nI i)), (2, .int (nI ni)), (3, .int (nI h)), (4, .int kw), (5, .int oz), (6, .int (nI fj)), (7, .int bu), (8, .int ca)]) (pc := 96) hx hb dX12_goRows_96 hl (by decide) rfl (fun ls hl => ?_)
  refine lv_iload (pc := 98) hx hb dX12_goRows_98 (lv_at hl 5 rfl) ?_
  refine lv_iload (pc := 100) hx hb dX12_goRows_100 (lv_at hl 7 rfl) ?_
  refine lv_ishr (pc := 102) hx hb dX12_goRows_102 ?_
  refine lv_iconst (v := 1) (pc := 103) hx hb dX12_goRows_103 (by decide) ?_
  refine lv_iand (pc := 104) hx hb dX12_goRows_104 ?_
  refine lv_iconst (v := 1) (pc := 105) hx hb dX12_goRows_105 (by decide) ?_
  refine lv_icmp_ne (tgt := 133) (pc := 106) hx hb dX12_goRows_106 rfl (fun c6 => ?_) (fun c6 => ?_)
  · refine lv_iconst (v := 0) (pc := 133) hx hb dX12_goRows_133 (by decide) ?_
    refine lv_istore (lv' := [(10, .int 0), (9, .int (rS (4 * i + ni))), (0, .ref h0), (1, .int (nI i)), (2, .int (nI ni)), (3, .int (nI h)), (4, .int kw), (5, .int oz), (6, .int (nI fj)), (7, .int bu), (8, .int ca)]) (pc := 134) hx hb dX12_goRows_134 hl (by decide) rfl (fun ls hl => ?_)
    refine lv_iconst (v := 0) (pc := 136) hx hb dX12_goRows_136 (by decide) ?_
    refine lv_istore (lv' := [(11, .int 0), (10, .int 0), (9, .int (rS (4 * i + ni))), (0, .ref h0), (1, .int (nI i)), (2, .int (nI ni)), (3, .int (nI h)), (4, .int kw), (5, .int oz), (6, .int (nI fj)), (7, .int bu), (8, .int ca)]) (pc := 137) hx hb dX12_goRows_137 hl (by decide) rfl (fun ls hl => ?_)
    refine lv_iload (pc := 139) hx hb dX12_goRows_139 (lv_at hl 0 rfl) ?_
    refine lv_aload_n (pc := 141) hx hb dX12_goRows_141 rfl (lv_at hl 3 rfl) ?_
    refine r_get X hW 0 ciX12 6 rfl (by decide) m_1237 rfl h6_ dX12_goRows_142 ?_
    refine lv_iload_n (pc := 145) hx hb dX12_goRows_145 rfl (lv_at hl 4 rfl) ?_
    refine r_iald X hW 1 rfl (vp_in_nI (by omega) (by decide)) dX12_goRows_146 ?_
    refine lv_topi (fun v8 ev8 => ?_)
    obtain rfl : v8 = rP i := ev8.trans (by rw [nI_clamp (by omega)])
    rw [hP]
    refine lv_icmp_ge (tgt := 235) (pc := 147) hx hb dX12_goRows_147 rfl (fun c9 => absurd c9 (fun q => absurd ((nI_leI (a := pe) (b := 0) (by omega) (by omega)).mp q) (by omega))) (fun c9 => ?_)
    refine lv_iload (pc := 150) hx hb dX12_goRows_150 (lv_at hl 1 rfl) ?_
    refine lv_if_eq (tgt := 235) (pc := 152) hx hb dX12_goRows_152 rfl (fun c10 => ?_) (fun c10 => absurd (by decide) c10)
    refine lv_aload_n (pc := 235) hx hb dX12_goRows_235 rfl (lv_at hl 3 rfl) ?_
    refine lv_iload_n (pc := 236) hx hb dX12_goRows_236 rfl (lv_at hl 4 rfl) ?_
    refine lv_iload_n (pc := 237) hx hb dX12_goRows_237 rfl (lv_at hl 5 rfl) ?_
    refine lv_iload_n (pc := 238) hx hb dX12_goRows_238 rfl (lv_at hl 6 rfl) ?_
    refine lv_iload (pc := 239) hx hb dX12_goRows_239 (lv_at hl 7 rfl) ?_
    refine lv_iload (pc := 241) hx hb dX12_goRows_241 (lv_at hl 8 rfl) ?_
    refine lv_iload (pc := 243) hx hb dX12_goRows_243 (lv_at hl 9 rfl) ?_
    refine lv_iconst (v := 1) (pc := 245) hx hb dX12_goRows_245 (by decide) ?_
    refine lv_iadd (pc := 246) hx hb dX12_goRows_246 ?_
    refine lv_topi (fun v11 ev11 => ?_)
    obtain rfl : v11 = nI (fj + 1) := ev11.trans (nI_add fj 1)
    refine lv_iload (pc := 247) hx hb dX12_goRows_247 (lv_at hl 10 rfl) ?_
    refine lv_iload (pc := 249) hx hb dX12_goRows_249 (lv_at hl 11 rfl) ?_
    refine c_Vv (pc := 251) (As := [.int (nI i), .int (nI ni), .int (nI h), .int kw, .int oz, .int (nI (fj + 1)), .int bu, .int ca]) (rest := []) (wr := []) X hW 0 ciX12 rfl (hrec dN bu ca hca) vX12_404 [0, 1, 2, 3, 4, 5, 6, 7, 8, 9, 10, 11, 12] [] rfl rfl rfl rfl rfl rfl hl.1 rfl (Nat.le_of_ble_eq_true rfl) ⟨by show _ ≤ dd + 1; omega, by show _ ≤ 40 * (dd + 1); omega⟩ ⟨Nat.le_of_ble_eq_true rfl, Nat.le_of_ble_eq_true rfl⟩ dX12_goRows_251 (fun u9 H locs hq hW => ?_)
    obtain rfl := hq
    have hW : WD g A s _ _ [(h0, .inr (12, vs)), (b6, .inl (g.2.1 1, 11, .inl rP)), (b7, .inl (g.2.1 1, 11, .inl rL)), (b8, .inl (g.2.1 1, 11, .inl rD)), (b11, .inl (g.2.1 1, 44, .inl rS)), (b12, .inl (g.2.1 1, 132, .inl rA)), (b13, .inl (g.2.1 1, 132, .inl rB)), (b14, .inl (g.2.1 1, 132, .inl rF)), (b15, .inl (g.2.1 1, 132, .inl rT)), (b16, .inl (g.2.1 1, 132, .inl rW)), (b17, .inl (g.2.1 3, 132, .inl rO)), (b61, .inl (g.2.1 1, 308, .inl tA)), (b63, .inl (g.2.1 3, 16384, .inl (R (fj + 1) bu ca dN)))] := hW
    have hF : F_X12_goRows rS rA rB rF rT rW rO dN lc pe i ni h kw fj bu ca R = (R (fj + 1) bu ca dN) := show F_X12_goRows rS rA rB rF rT rW rO dN lc pe i ni h kw fj bu ca R = (R (fj + 1) bu ca dN) from by rw [F_X12_goRows, if_neg c6]
    exact e_v (u := [(h0, .inr (12, vs)), (b6, .inl (g.2.1 1, 11, .inl rP)), (b7, .inl (g.2.1 1, 11, .inl rL)), (b8, .inl (g.2.1 1, 11, .inl rD)), (b11, .inl (g.2.1 1, 44, .inl rS)), (b12, .inl (g.2.1 1, 132, .inl rA)), (b13, .inl (g.2.1 1, 132, .inl rB)), (b14, .inl (g.2.1 1, 132, .inl rF)), (b15, .inl (g.2.1 1, 132, .inl rT)), (b16, .inl (g.2.1 1, 132, .inl rW)), (b17, .inl (g.2.1 3, 132, .inl rO)), (b61, .inl (g.2.1 1, 308, .inl tA)), (b63, .inl (g.2.1 3, 16384, .inl (R (fj + 1) bu ca dN)))]) X hQ hr (hW) [0, 1, 2, 3, 4, 5, 6, 7, 8, 9, 10, 11, 12] rfl rfl (by rw [hF]) ⟨Nat.le_of_ble_eq_true rfl, Nat.le_of_ble_eq_true rfl⟩ dX12_goRows_254
  · refine lv_iload (pc := 109) hx hb dX12_goRows_109 (lv_at hl 0 rfl) ?_
    refine lv_iload (pc := 111) hx hb dX12_goRows_111 (lv_at hl 7 rfl) ?_
    refine lv_ishr (pc := 113) hx hb dX12_goRows_113 ?_
    refine lv_iconst (v := 1) (pc := 114) hx hb dX12_goRows_114 (by decide) ?_
    refine lv_iand (pc := 115) hx hb dX12_goRows_115 ?_
    refine lv_if_ne (tgt := 133) (pc := 116) hx hb dX12_goRows_116 rfl (fun c13 => ?_) (fun c13 => ?_)
    · refine lv_iconst (v := 0) (pc := 133) hx hb dX12_goRows_133 (by decide) ?_
      refine lv_istore (lv' := [(10, .int 0), (9, .int (rS (4 * i + ni))), (0, .ref h0), (1, .int (nI i)), (2, .int (nI ni)), (3, .int (nI h)), (4, .int kw), (5, .int oz), (6, .int (nI fj)), (7, .int bu), (8, .int ca)]) (pc := 134) hx hb dX12_goRows_134 hl (by decide) rfl (fun ls hl => ?_)
      refine lv_iconst (v := 0) (pc := 136) hx hb dX12_goRows_136 (by decide) ?_
      refine lv_istore (lv' := [(11, .int 0), (10, .int 0), (9, .int (rS (4 * i + ni))), (0, .ref h0), (1, .int (nI i)), (2, .int (nI ni)), (3, .int (nI h)), (4, .int kw), (5, .int oz), (6, .int (nI fj)), (7, .int bu), (8, .int ca)]) (pc := 137) hx hb dX12_goRows_137 hl (by decide) rfl (fun ls hl => ?_)
      refine lv_iload (pc := 139) hx hb dX12_goRows_139 (lv_at hl 0 rfl) ?_
      refine lv_aload_n (pc := 141) hx hb dX12_goRows_141 rfl (lv_at hl 3 rfl) ?_
      refine r_get X hW 0 ciX12 6 rfl (by decide) m_1237 rfl h6_ dX12_goRows_142 ?_
      refine lv_iload_n (pc := 145) hx hb dX12_goRows_145 rfl (lv_at hl 4 rfl) ?_
      refine r_iald X hW 1 rfl (vp_in_nI (by omega) (by decide)) dX12_goRows_146 ?_
      refine lv_topi (fun v15 ev15 => ?_)
      obtain rfl : v15 = rP i := ev15.trans (by rw [nI_clamp (by omega)])
      rw [hP]
      refine lv_icmp_ge (tgt := 235) (pc := 147) hx hb dX12_goRows_147 rfl (fun c16 => absurd c16 (fun q => absurd ((nI_leI (a := pe) (b := 0) (by omega) (by omega)).mp q) (by omega))) (fun c16 => ?_)
      refine lv_iload (pc := 150) hx hb dX12_goRows_150 (lv_at hl 1 rfl) ?_
      refine lv_if_eq (tgt := 235) (pc := 152) hx hb dX12_goRows_152 rfl (fun c17 => ?_) (fun c17 => absurd (by decide) c17)
      refine lv_aload_n (pc := 235) hx hb dX12_goRows_235 rfl (lv_at hl 3 rfl) ?_
      refine lv_iload_n (pc := 236) hx hb dX12_goRows_236 rfl (lv_at hl 4 rfl) ?_
      refine lv_iload_n (pc := 237) hx hb dX12_goRows_237 rfl (lv_at hl 5 rfl) ?_
      refine lv_iload_n (pc := 238) hx hb dX12_goRows_238 rfl (lv_at hl 6 rfl) ?_
      refine lv_iload (pc := 239) hx hb dX12_goRows_239 (lv_at hl 7 rfl) ?_
      refine lv_iload (pc := 241) hx hb dX12_goRows_241 (lv_at hl 8 rfl) ?_
      refine lv_iload (pc := 243) hx hb dX12_goRows_243 (lv_at hl 9 rfl) ?_
      refine lv_iconst (v := 1) (pc := 245) hx hb dX12_goRows_245 (by decide) ?_
      refine lv_iadd (pc := 246) hx hb dX12_goRows_246 ?_
      refine lv_topi (fun v18 ev18 => ?_)
      obtain rfl : v18 = nI (fj + 1) := ev18.trans (nI_add fj 1)
      refine lv_iload (pc := 247) hx hb dX12_goRows_247 (lv_at hl 10 rfl) ?_
      refine lv_iload (pc := 249) hx hb dX12_goRows_249 (lv_at hl 11 rfl) ?_
      refine c_Vv (pc := 251) (As := [.int (nI i), .int (nI ni), .int (nI h), .int kw, .int oz, .int (nI (fj + 1)), .int bu, .int ca]) (rest := []) (wr := []) X hW 0 ciX12 rfl (hrec dN bu ca hca) vX12_404 [0, 1, 2, 3, 4, 5, 6, 7, 8, 9, 10, 11, 12] [] rfl rfl rfl rfl rfl rfl hl.1 rfl (Nat.le_of_ble_eq_true rfl) ⟨by show _ ≤ dd + 1; omega, by show _ ≤ 40 * (dd + 1); omega⟩ ⟨Nat.le_of_ble_eq_true rfl, Nat.le_of_ble_eq_true rfl⟩ dX12_goRows_251 (fun u9 H locs hq hW => ?_)
      obtain rfl := hq
      have hW : WD g A s _ _ [(h0, .inr (12, vs)), (b6, .inl (g.2.1 1, 11, .inl rP)), (b7, .inl (g.2.1 1, 11, .inl rL)), (b8, .inl (g.2.1 1, 11, .inl rD)), (b11, .inl (g.2.1 1, 44, .inl rS)), (b12, .inl (g.2.1 1, 132, .inl rA)), (b13, .inl (g.2.1 1, 132, .inl rB)), (b14, .inl (g.2.1 1, 132, .inl rF)), (b15, .inl (g.2.1 1, 132, .inl rT)), (b16, .inl (g.2.1 1, 132, .inl rW)), (b17, .inl (g.2.1 3, 132, .inl rO)), (b61, .inl (g.2.1 1, 308, .inl tA)), (b63, .inl (g.2.1 3, 16384, .inl (R (fj + 1) bu ca dN)))] := hW
      have hF : F_X12_goRows rS rA rB rF rT rW rO dN lc pe i ni h kw fj bu ca R = (R (fj + 1) bu ca dN) := show F_X12_goRows rS rA rB rF rT rW rO dN lc pe i ni h kw fj bu ca R = (R (fj + 1) bu ca dN) from by rw [F_X12_goRows, if_pos c6, if_neg c13]
      exact e_v (u := [(h0, .inr (12, vs)), (b6, .inl (g.2.1 1, 11, .inl rP)), (b7, .inl (g.2.1 1, 11, .inl rL)), (b8, .inl (g.2.1 1, 11, .inl rD)), (b11, .inl (g.2.1 1, 44, .inl rS)), (b12, .inl (g.2.1 1, 132, .inl rA)), (b13, .inl (g.2.1 1, 132, .inl rB)), (b14, .inl (g.2.1 1, 132, .inl rF)), (b15, .inl (g.2.1 1, 132, .inl rT)), (b16, .inl (g.2.1 1, 132, .inl rW)), (b17, .inl (g.2.1 3, 132, .inl rO)), (b61, .inl (g.2.1 1, 308, .inl tA)), (b63, .inl (g.2.1 3, 16384, .inl (R (fj + 1) bu ca dN)))]) X hQ hr (hW) [0, 1, 2, 3, 4, 5, 6, 7, 8, 9, 10, 11, 12] rfl rfl (by rw [hF]) ⟨Nat.le_of_ble_eq_true rfl, Nat.le_of_ble_eq_true rfl⟩ dX12_goRows_254
    · refine lv_iload (pc := 119) hx hb dX12_goRows_119 (lv_at hl 8 rfl) ?_
      refine lv_iload (pc := 121) hx hb dX12_goRows_121 (lv_at hl 7 rfl) ?_
      refine lv_ishr (pc := 123) hx hb dX12_goRows_123 ?_
      refine lv_iconst (v := 1) (pc := 124) hx hb dX12_goRows_124 (by decide) ?_
      refine lv_iand (pc := 125) hx hb dX12_goRows_125 ?_
      refine lv_if_ne (tgt := 133) (pc := 126) hx hb dX12_goRows_126 rfl (fun c20 => ?_) (fun c20 => ?_)
      · refine lv_iconst (v := 0) (pc := 133) hx hb dX12_goRows_133 (by decide) ?_
        refine lv_istore (lv' := [(10, .int 0), (9, .int (rS (4 * i + ni))), (0, .ref h0), (1, .int (nI i)), (2, .int (nI ni)), (3, .int (nI h)), (4, .int kw), (5, .int oz), (6, .int (nI fj)), (7, .int bu), (8, .int ca)]) (pc := 134) hx hb dX12_goRows_134 hl (by decide) rfl (fun ls hl => ?_)
        refine lv_iconst (v := 0) (pc := 136) hx hb dX12_goRows_136 (by decide) ?_
        refine lv_istore (lv' := [(11, .int 0), (10, .int 0), (9, .int (rS (4 * i + ni))), (0, .ref h0), (1, .int (nI i)), (2, .int (nI ni)), (3, .int (nI h)), (4, .int kw), (5, .int oz), (6, .int (nI fj)), (7, .int bu), (8, .int ca)]) (pc := 137) hx hb dX12_goRows_137 hl (by decide) rfl (fun ls hl => ?_)
        refine lv_iload (pc := 139) hx hb dX12_goRows_139 (lv_at hl 0 rfl) ?_
        refine lv_aload_n (pc := 141) hx hb dX12_goRows_141 rfl (lv_at hl 3 rfl) ?_
        refine r_get X hW 0 ciX12 6 rfl (by decide) m_1237 rfl h6_ dX12_goRows_142 ?_
        refine lv_iload_n (pc := 145) hx hb dX12_goRows_145 rfl (lv_at hl 4 rfl) ?_
        refine r_iald X hW 1 rfl (vp_in_nI (by omega) (by decide)) dX12_goRows_146 ?_
        refine lv_topi (fun v22 ev22 => ?_)
        obtain rfl : v22 = rP i := ev22.trans (by rw [nI_clamp (by omega)])
        rw [hP]
        refine lv_icmp_ge (tgt := 235) (pc := 147) hx hb dX12_goRows_147 rfl (fun c23 => absurd c23 (fun q => absurd ((nI_leI (a := pe) (b := 0) (by omega) (by omega)).mp q) (by omega))) (fun c23 => ?_)
        refine lv_iload (pc := 150) hx hb dX12_goRows_150 (lv_at hl 1 rfl) ?_
        refine lv_if_eq (tgt := 235) (pc := 152) hx hb dX12_goRows_152 rfl (fun c24 => ?_) (fun c24 => absurd (by decide) c24)
        refine lv_aload_n (pc := 235) hx hb dX12_goRows_235 rfl (lv_at hl 3 rfl) ?_
        refine lv_iload_n (pc := 236) hx hb dX12_goRows_236 rfl (lv_at hl 4 rfl) ?_
        refine lv_iload_n (pc := 237) hx hb dX12_goRows_237 rfl (lv_at hl 5 rfl) ?_
        refine lv_iload_n (pc := 238) hx hb dX12_goRows_238 rfl (lv_at hl 6 rfl) ?_
        refine lv_iload (pc := 239) hx hb dX12_goRows_239 (lv_at hl 7 rfl) ?_
        refine lv_iload (pc := 241) hx hb dX12_goRows_241 (lv_at hl 8 rfl) ?_
        refine lv_iload (pc := 243) hx hb dX12_goRows_243 (lv_at hl 9 rfl) ?_
        refine lv_iconst (v := 1) (pc := 245) hx hb dX12_goRows_245 (by decide) ?_
        refine lv_iadd (pc := 246) hx hb dX12_goRows_246 ?_
        refine lv_topi (fun v25 ev25 => ?_)
        obtain rfl : v25 = nI (fj + 1) := ev25.trans (nI_add fj 1)
        refine lv_iload (pc := 247) hx hb dX12_goRows_247 (lv_at hl 10 rfl) ?_
        refine lv_iload (pc := 249) hx hb dX12_goRows_249 (lv_at hl 11 rfl) ?_
        refine c_Vv (pc := 251) (As := [.int (nI i), .int (nI ni), .int (nI h), .int kw, .int oz, .int (nI (fj + 1)), .int bu, .int ca]) (rest := []) (wr := []) X hW 0 ciX12 rfl (hrec dN bu ca hca) vX12_404 [0, 1, 2, 3, 4, 5, 6, 7, 8, 9, 10, 11, 12] [] rfl rfl rfl rfl rfl rfl hl.1 rfl (Nat.le_of_ble_eq_true rfl) ⟨by show _ ≤ dd + 1; omega, by show _ ≤ 40 * (dd + 1); omega⟩ ⟨Nat.le_of_ble_eq_true rfl, Nat.le_of_ble_eq_true rfl⟩ dX12_goRows_251 (fun u9 H locs hq hW => ?_)
        obtain rfl := hq
        have hW : WD g A s _ _ [(h0, .inr (12, vs)), (b6, .inl (g.2.1 1, 11, .inl rP)), (b7, .inl (g.2.1 1, 11, .inl rL)), (b8, .inl (g.2.1 1, 11, .inl rD)), (b11, .inl (g.2.1 1, 44, .inl rS)), (b12, .inl (g.2.1 1, 132, .inl rA)), (b13, .inl (g.2.1 1, 132, .inl rB)), (b14, .inl (g.2.1 1, 132, .inl rF)), (b15, .inl (g.2.1 1, 132, .inl rT)), (b16, .inl (g.2.1 1, 132, .inl rW)), (b17, .inl (g.2.1 3, 132, .inl rO)), (b61, .inl (g.2.1 1, 308, .inl tA)), (b63, .inl (g.2.1 3, 16384, .inl (R (fj + 1) bu ca dN)))] := hW
        have hF : F_X12_goRows rS rA rB rF rT rW rO dN lc pe i ni h kw fj bu ca R = (R (fj + 1) bu ca dN) := show F_X12_goRows rS rA rB rF rT rW rO dN lc pe i ni h kw fj bu ca R = (R (fj + 1) bu ca dN) from by rw [F_X12_goRows, if_pos c6, if_pos c13, if_neg c20]
        exact e_v (u := [(h0, .inr (12, vs)), (b6, .inl (g.2.1 1, 11, .inl rP)), (b7, .inl (g.2.1 1, 11, .inl rL)), (b8, .inl (g.2.1 1, 11, .inl rD)), (b11, .inl (g.2.1 1, 44, .inl rS)), (b12, .inl (g.2.1 1, 132, .inl rA)), (b13, .inl (g.2.1 1, 132, .inl rB)), (b14, .inl (g.2.1 1, 132, .inl rF)), (b15, .inl (g.2.1 1, 132, .inl rT)), (b16, .inl (g.2.1 1, 132, .inl rW)), (b17, .inl (g.2.1 3, 132, .inl rO)), (b61, .inl (g.2.1 1, 308, .inl tA)), (b63, .inl (g.2.1 3, 16384, .inl (R (fj + 1) bu ca dN)))]) X hQ hr (hW) [0, 1, 2, 3, 4, 5, 6, 7, 8, 9, 10, 11, 12] rfl rfl (by rw [hF]) ⟨Nat.le_of_ble_eq_true rfl, Nat.le_of_ble_eq_true rfl⟩ dX12_goRows_254
      · refine lv_iconst (v := 1) (pc := 129) hx hb dX12_goRows_129 (by decide) ?_
        refine lv_goto (tgt := 134) (pc := 130) hx hb dX12_goRows_130 rfl ?_
        refine lv_istore (lv' := [(10, .int 1), (9, .int (rS (4 * i + ni))), (0, .ref h0), (1, .int (nI i)), (2, .int (nI ni)), (3, .int (nI h)), (4, .int kw), (5, .int oz), (6, .int (nI fj)), (7, .int bu), (8, .int ca)]) (pc := 134) hx hb dX12_goRows_134 hl (by decide) rfl (fun ls hl => ?_)
        refine lv_iconst (v := 0) (pc := 136) hx hb dX12_goRows_136 (by decide) ?_
        refine lv_istore (lv' := [(11, .int 0), (10, .int 1), (9, .int (rS (4 * i + ni))), (0, .ref h0), (1, .int (nI i)), (2, .int (nI ni)), (3, .int (nI h)), (4, .int kw), (5, .int oz), (6, .int (nI fj)), (7, .int bu), (8, .int ca)]) (pc := 137) hx hb dX12_goRows_137 hl (by decide) rfl (fun ls hl => ?_)
        have loop1 : ∀ (fu1 : Nat) (j1 : Nat) (fb63_1 : Nat → Int32), (pe < fu1 + j1) → (j1 ≤ pe) → (fb63_1 = L1_X12_goRows rS rA rB rF rT rW rO lc i ni h kw fj bu ca R dN j1) → ∀ (H : Heap) (locs : List Loc) (ls : Array Slot), WD g A s H locs [(h0, .inr (12, vs)), (b6, .inl (g.2.1 1, 11, .inl rP)), (b7, .inl (g.2.1 1, 11, .inl rL)), (b8, .inl (g.2.1 1, 11, .inl rD)), (b11, .inl (g.2.1 1, 44, .inl rS)), (b12, .inl (g.2.1 1, 132, .inl rA)), (b13, .inl (g.2.1 1, 132, .inl rB)), (b14, .inl (g.2.1 1, 132, .inl rF)), (b15, .inl (g.2.1 1, 132, .inl rT)), (b16, .inl (g.2.1 1, 132, .inl rW)), (b17, .inl (g.2.1 3, 132, .inl rO)), (b61, .inl (g.2.1 1, 308, .inl tA)), (b63, .inl (g.2.1 3, 16384, .inl fb63_1))] → lv_has ls 12 [(11, .int (nI j1)), (10, .int 1), (9, .int (rS (4 * i + ni))), (0, .ref h0), (1, .int (nI i)), (2, .int (nI ni)), (3, .int (nI h)), (4, .int kw), (5, .int oz), (6, .int (nI fj)), (7, .int bu), (8, .int ca)] → W p l e (RM (dd + 1) 0 0) s m args below meth c H locs 0 0 Q (F0 m 139 ls []) := by
          intro fu1
          induction fu1 with
          | zero =>
            intro j1 fb63_1 hm1 hj1 hst1
            exact absurd hm1 (by omega)
          | succ fu1 ih1 =>
            intro j1 fb63_1 hm1 hj1 hst1 H locs ls hW hl
            refine lv_iload (pc := 139) hx hb dX12_goRows_139 (lv_at hl 0 rfl) ?_
            refine lv_aload_n (pc := 141) hx hb dX12_goRows_141 rfl (lv_at hl 3 rfl) ?_
            refine r_get X hW 0 ciX12 6 rfl (by decide) m_1237 rfl h6_ dX12_goRows_142 ?_
            refine lv_iload_n (pc := 145) hx hb dX12_goRows_145 rfl (lv_at hl 4 rfl) ?_
            refine r_iald X hW 1 rfl (vp_in_nI (by omega) (by decide)) dX12_goRows_146 ?_
            refine lv_topi (fun v27 ev27 => ?_)
            obtain rfl : v27 = rP i := ev27.trans (by rw [nI_clamp (by omega)])
            rw [hP]
            refine lv_icmp_ge (tgt := 235) (pc := 147) hx hb dX12_goRows_147 rfl (fun c28 => ?_) (fun c28 => ?_)
            · have h29 : pe ≤ j1 := (nI_leI (a := pe) (b := j1) (by omega) (by omega)).mp c28
              have hN1 : j1 = pe := by omega
              rw [hN1] at hst1
              subst hst1
              have hW : WD g A s _ _ [(h0, .inr (12, vs)), (b6, .inl (g.2.1 1, 11, .inl rP)), (b7, .inl (g.2.1 1, 11, .inl rL)), (b8, .inl (g.2.1 1, 11, .inl rD)), (b11, .inl (g.2.1 1, 44, .inl rS)), (b12, .inl (g.2.1 1, 132, .inl rA)), (b13, .inl (g.2.1 1, 132, .inl rB)), (b14, .inl (g.2.1 1, 132, .inl rF)), (b15, .inl (g.2.1 1, 132, .inl rT)), (b16, .inl (g.2.1 1, 132, .inl rW)), (b17, .inl (g.2.1 3, 132, .inl rO)), (b61, .inl (g.2.1 1, 308, .inl tA)), (b63, .inl (g.2.1 3, 16384, .inl (L1_X12_goRows rS rA rB rF rT rW rO lc i ni h kw fj bu ca R dN pe)))] := hW
              refine lv_aload_n (pc := 235) hx hb dX12_goRows_235 rfl (lv_at hl 3 rfl) ?_
              refine lv_iload_n (pc := 236) hx hb dX12_goRows_236 rfl (lv_at hl 4 rfl) ?_
              refine lv_iload_n (pc := 237) hx hb dX12_goRows_237 rfl (lv_at hl 5 rfl) ?_
              refine lv_iload_n (pc := 238) hx hb dX12_goRows_238 rfl (lv_at hl 6 rfl) ?_
              refine lv_iload (pc := 239) hx hb dX12_goRows_239 (lv_at hl 7 rfl) ?_
              refine lv_iload (pc := 241) hx hb dX12_goRows_241 (lv_at hl 8 rfl) ?_
              refine lv_iload (pc := 243) hx hb dX12_goRows_243 (lv_at hl 9 rfl) ?_
              refine lv_iconst (v := 1) (pc := 245) hx hb dX12_goRows_245 (by decide) ?_
              refine lv_iadd (pc := 246) hx hb dX12_goRows_246 ?_
              refine lv_topi (fun v30 ev30 => ?_)
              obtain rfl : v30 = nI (fj + 1) := ev30.trans (nI_add fj 1)
              refine lv_iload (pc := 247) hx hb dX12_goRows_247 (lv_at hl 10 rfl) ?_
              refine lv_iload (pc := 249) hx hb dX12_goRows_249 (lv_at hl 11 rfl) ?_
              refine c_Vv (pc := 251) (As := [.int (nI i), .int (nI ni), .int (nI h), .int kw, .int oz, .int (nI (fj + 1)), .int bu, .int ca]) (rest := []) (wr := []) X hW 0 ciX12 rfl (hrec (L1_X12_goRows rS rA rB rF rT rW rO lc i ni h kw fj bu ca R dN pe) bu ca hca) vX12_404 [0, 1, 2, 3, 4, 5, 6, 7, 8, 9, 10, 11, 12] [] rfl rfl rfl rfl rfl rfl hl.1 rfl (Nat.le_of_ble_eq_true rfl) ⟨by show _ ≤ dd + 1; omega, by show _ ≤ 40 * (dd + 1); omega⟩ ⟨Nat.le_of_ble_eq_true rfl, Nat.le_of_ble_eq_true rfl⟩ dX12_goRows_251 (fun u9 H locs hq hW => ?_)
              obtain rfl := hq
              have hW : WD g A s _ _ [(h0, .inr (12, vs)), (b6, .inl (g.2.1 1, 11, .inl rP)), (b7, .inl (g.2.1 1, 11, .inl rL)), (b8, .inl (g.2.1 1, 11, .inl rD)), (b11, .inl (g.2.1 1, 44, .inl rS)), (b12, .inl (g.2.1 1, 132, .inl rA)), (b13, .inl (g.2.1 1, 132, .inl rB)), (b14, .inl (g.2.1 1, 132, .inl rF)), (b15, .inl (g.2.1 1, 132, .inl rT)), (b16, .inl (g.2.1 1, 132, .inl rW)), (b17, .inl (g.2.1 3, 132, .inl rO)), (b61, .inl (g.2.1 1, 308, .inl tA)), (b63, .inl (g.2.1 3, 16384, .inl (R (fj + 1) bu ca (L1_X12_goRows rS rA rB rF rT rW rO lc i ni h kw fj bu ca R dN pe))))] := hW
              have hF : F_X12_goRows rS rA rB rF rT rW rO dN lc pe i ni h kw fj bu ca R = (R (fj + 1) bu ca (L1_X12_goRows rS rA rB rF rT rW rO lc i ni h kw fj bu ca R dN pe)) := show F_X12_goRows rS rA rB rF rT rW rO dN lc pe i ni h kw fj bu ca R = (R (fj + 1) bu ca (L1_X12_goRows rS rA rB rF rT rW rO lc i ni h kw fj bu ca R dN pe)) from by rw [F_X12_goRows, if_pos c6, if_pos c13, if_pos c20]
              exact e_v (u := [(h0, .inr (12, vs)), (b6, .inl (g.2.1 1, 11, .inl rP)), (b7, .inl (g.2.1 1, 11, .inl rL)), (b8, .inl (g.2.1 1, 11, .inl rD)), (b11, .inl (g.2.1 1, 44, .inl rS)), (b12, .inl (g.2.1 1, 132, .inl rA)), (b13, .inl (g.2.1 1, 132, .inl rB)), (b14, .inl (g.2.1 1, 132, .inl rF)), (b15, .inl (g.2.1 1, 132, .inl rT)), (b16, .inl (g.2.1 1, 132, .inl rW)), (b17, .inl (g.2.1 3, 132, .inl rO)), (b61, .inl (g.2.1 1, 308, .inl tA)), (b63, .inl (g.2.1 3, 16384, .inl (R (fj + 1) bu ca (L1_X12_goRows rS rA rB rF rT rW rO lc i ni h kw fj bu ca R dN pe))))]) X hQ hr (hW) [0, 1, 2, 3, 4, 5, 6, 7, 8, 9, 10, 11, 12] rfl rfl (by rw [hF]) ⟨Nat.le_of_ble_eq_true rfl, Nat.le_of_ble_eq_true rfl⟩ dX12_goRows_254
            · have h31 : ¬ (pe ≤ j1) := fun q => c28 ((nI_leI (a := pe) (b := j1) (by omega) (by omega)).mpr q)
              refine lv_iload (pc := 150) hx hb dX12_goRows_150 (lv_at hl 1 rfl) ?_
              refine lv_if_eq (tgt := 235) (pc := 152) hx hb dX12_goRows_152 rfl (fun c32 => absurd c32 (by decide)) (fun c32 => ?_)
              refine lv_iload (pc := 155) hx hb dX12_goRows_155 (lv_at hl 0 rfl) ?_
              refine lv_iload (pc := 157) hx hb dX12_goRows_157 (lv_at hl 9 rfl) ?_
              refine lv_icmp_eq (tgt := 229) (pc := 159) hx hb dX12_goRows_159 rfl (fun c33 => ?_) (fun c33 => ?_)
              · have h34 : j1 = fj := (nI_eq (a := j1) (b := fj) (by omega) (by omega)).mp c33
                refine lv_iinc (v := nI (j1 + 1)) (lv' := [(11, .int (nI (j1 + 1))), (10, .int 1), (9, .int (rS (4 * i + ni))), (0, .ref h0), (1, .int (nI i)), (2, .int (nI ni)), (3, .int (nI h)), (4, .int kw), (5, .int oz), (6, .int (nI fj)), (7, .int bu), (8, .int ca)]) (pc := 229) hx hb dX12_goRows_229 hl (k := 0) rfl (nI_add j1 1) (by decide) rfl (fun ls hl => ?_)
                refine lv_goto (tgt := 139) (pc := 232) hx hb dX12_goRows_232 rfl ?_
                exact ih1 (j1 + 1) fb63_1 (by omega) (by omega) (by rw [L1_X12_goRows, ← hst1]; exact (show L1_X12_goRowss rS rA rB rF rT rW rO lc i ni h kw fj bu ca R j1 fb63_1 = fb63_1 from by rw [L1_X12_goRowss, if_pos c33]).symm) _ _ _ hW (lv_sub hl [0, 1, 2, 3, 4, 5, 6, 7, 8, 9, 10, 11] rfl)
              · have h35 : ¬ (j1 = fj) := fun q => c33 ((nI_eq (a := j1) (b := fj) (by omega) (by omega)).mpr q)
                refine lv_iload (pc := 162) hx hb dX12_goRows_162 (lv_at hl 10 rfl) ?_
                refine lv_iload (pc := 164) hx hb dX12_goRows_164 (lv_at hl 2 rfl) ?_
                refine lv_ior (pc := 166) hx hb dX12_goRows_166 ?_
                refine lv_iload (pc := 167) hx hb dX12_goRows_167 (lv_at hl 7 rfl) ?_
                refine lv_ior (pc := 169) hx hb dX12_goRows_169 ?_
                refine lv_iload (pc := 170) hx hb dX12_goRows_170 (lv_at hl 0 rfl) ?_
                refine lv_ishr (pc := 172) hx hb dX12_goRows_172 ?_
                refine lv_iconst (v := 1) (pc := 173) hx hb dX12_goRows_173 (by decide) ?_
                refine lv_iand (pc := 174) hx hb dX12_goRows_174 ?_
                refine lv_iconst (v := 1) (pc := 175) hx hb dX12_goRows_175 (by decide) ?_
                refine lv_icmp_eq (tgt := 229) (pc := 176) hx hb dX12_goRows_176 rfl (fun c36 => ?_) (fun c36 => ?_)
                · refine lv_iinc (v := nI (j1 + 1)) (lv' := [(11, .int (nI (j1 + 1))), (10, .int 1), (9, .int (rS (4 * i + ni))), (0, .ref h0), (1, .int (nI i)), (2, .int (nI ni)), (3, .int (nI h)), (4, .int kw), (5, .int oz), (6, .int (nI fj)), (7, .int bu), (8, .int ca)]) (pc := 229) hx hb dX12_goRows_229 hl (k := 0) rfl (nI_add j1 1) (by decide) rfl (fun ls hl => ?_)
                  refine lv_goto (tgt := 139) (pc := 232) hx hb dX12_goRows_232 rfl ?_
                  exact ih1 (j1 + 1) fb63_1 (by omega) (by omega) (by rw [L1_X12_goRows, ← hst1]; exact (show L1_X12_goRowss rS rA rB rF rT rW rO lc i ni h kw fj bu ca R j1 fb63_1 = fb63_1 from by rw [L1_X12_goRowss, if_neg c33, if_pos c36]).symm) _ _ _ hW (lv_sub hl [0, 1, 2, 3, 4, 5, 6, 7, 8, 9, 10, 11] rfl)
                · refine lv_aload_n (pc := 179) hx hb dX12_goRows_179 rfl (lv_at hl 3 rfl) ?_
                  refine lv_iload_n (pc := 180) hx hb dX12_goRows_180 rfl (lv_at hl 4 rfl) ?_
                  refine lv_iload (pc := 181) hx hb dX12_goRows_181 (lv_at hl 9 rfl) ?_
                  refine lv_iload (pc := 183) hx hb dX12_goRows_183 (lv_at hl 0 rfl) ?_
                  refine lv_iload_n (pc := 185) hx hb dX12_goRows_185 rfl (lv_at hl 6 rfl) ?_
                  refine c_Vi (pc := 186) (As := [.int (nI i), .int (nI fj), .int (nI j1), .int (nI h)]) (rest := []) (wr := [(b6, .inl (g.2.1 1, 11, .inl rP)), (b8, .inl (g.2.1 1, 11, .inl rD)), (b11, .inl (g.2.1 1, 44, .inl rS)), (b61, .inl (g.2.1 1, 308, .inl tA)), (b63, .inl (g.2.1 3, 16384, .inl fb63_1))]) X hW 0 ciX12 rfl (K_X12_mayCall l g h0 vs b7 rL b12 rA b13 rB b14 rF b15 rT b16 rW b17 rO lc i fj j1 (nI h) hlen h7_ h12_ h13_ h14_ h15_ h16_ h17_ h19_ h20_ (by omega) (by omega) (by omega) hlc hL) vX12_240 [0, 2, 5, 6, 7, 8, 9, 10] [1, 3, 4, 11, 12] rfl rfl rfl rfl rfl rfl hl.1 rfl (Nat.le_of_ble_eq_true rfl) ⟨by show _ ≤ dd + 1; omega, by show _ ≤ 40 * (dd + 1); omega⟩ ⟨Nat.le_of_ble_eq_true rfl, Nat.le_of_ble_eq_true rfl⟩ dX12_goRows_186 (fun r39 u9 H locs hq hW => ?_)
                  obtain ⟨rfl, rfl⟩ := hq
                  have hW : WD g A s _ _ [(b6, .inl (g.2.1 1, 11, .inl rP)), (b8, .inl (g.2.1 1, 11, .inl rD)), (b11, .inl (g.2.1 1, 44, .inl rS)), (b61, .inl (g.2.1 1, 308, .inl tA)), (b63, .inl (g.2.1 3, 16384, .inl fb63_1)), (h0, .inr (12, vs)), (b7, .inl (g.2.1 1, 11, .inl rL)), (b12, .inl (g.2.1 1, 132, .inl rA)), (b13, .inl (g.2.1 1, 132, .inl rB)), (b14, .inl (g.2.1 1, 132, .inl rF)), (b15, .inl (g.2.1 1, 132, .inl rT)), (b16, .inl (g.2.1 1, 132, .inl rW)), (b17, .inl (g.2.1 3, 132, .inl rO))] := hW
                  refine lv_if_ne (tgt := 195) (pc := 189) hx hb dX12_goRows_189 rfl (fun c40 => ?_) (fun c40 => ?_)
                  · refine lv_aload_n (pc := 195) hx hb dX12_goRows_195 rfl (lv_at hl 3 rfl) ?_
                    refine lv_iload_n (pc := 196) hx hb dX12_goRows_196 rfl (lv_at hl 4 rfl) ?_
                    refine lv_iload_n (pc := 197) hx hb dX12_goRows_197 rfl (lv_at hl 5 rfl) ?_
                    refine lv_iload_n (pc := 198) hx hb dX12_goRows_198 rfl (lv_at hl 6 rfl) ?_
                    refine lv_iload (pc := 199) hx hb dX12_goRows_199 (lv_at hl 7 rfl) ?_
                    refine lv_iload (pc := 201) hx hb dX12_goRows_201 (lv_at hl 8 rfl) ?_
                    refine lv_iload (pc := 203) hx hb dX12_goRows_203 (lv_at hl 9 rfl) ?_
                    refine lv_iconst (v := 1) (pc := 205) hx hb dX12_goRows_205 (by decide) ?_
                    refine lv_iadd (pc := 206) hx hb dX12_goRows_206 ?_
                    refine lv_topi (fun v42 ev42 => ?_)
                    obtain rfl : v42 = nI (fj + 1) := ev42.trans (nI_add fj 1)
                    refine lv_iload (pc := 207) hx hb dX12_goRows_207 (lv_at hl 10 rfl) ?_
                    refine lv_iconst (v := 1) (pc := 209) hx hb dX12_goRows_209 (by decide) ?_
                    refine lv_iload (pc := 210) hx hb dX12_goRows_210 (lv_at hl 9 rfl) ?_
                    refine lv_ishl (pc := 212) hx hb dX12_goRows_212 ?_
                    refine lv_ior (pc := 213) hx hb dX12_goRows_213 ?_
                    refine lv_iconst (v := 1) (pc := 214) hx hb dX12_goRows_214 (by decide) ?_
                    refine lv_iload (pc := 215) hx hb dX12_goRows_215 (lv_at hl 0 rfl) ?_
                    refine lv_ishl (pc := 217) hx hb dX12_goRows_217 ?_
                    refine lv_ior (pc := 218) hx hb dX12_goRows_218 ?_
                    refine lv_iload (pc := 219) hx hb dX12_goRows_219 (lv_at hl 11 rfl) ?_
                    refine lv_iconst (v := 1) (pc := 221) hx hb dX12_goRows_221 (by decide) ?_
                    refine lv_iload (pc := 222) hx hb dX12_goRows_222 (lv_at hl 0 rfl) ?_
                    refine lv_ishl (pc := 224) hx hb dX12_goRows_224 ?_
                    refine lv_ior (pc := 225) hx hb dX12_goRows_225 ?_
                    refine c_Vv (pc := 226) (As := [.int (nI i), .int (nI ni), .int (nI h), .int kw, .int oz, .int (nI (fj + 1)), .int ((bu ||| ((1 : Int32) <<< ((nI fj) &&& 31))) ||| ((1 : Int32) <<< ((nI j1) &&& 31))), .int (ca ||| ((1 : Int32) <<< ((nI j1) &&& 31)))]) (rest := []) (wr := []) X hW 5 ciX12 rfl (hrec fb63_1 ((bu ||| ((1 : Int32) <<< ((nI fj) &&& 31))) ||| ((1 : Int32) <<< ((nI j1) &&& 31))) (ca ||| ((1 : Int32) <<< ((nI j1) &&& 31))) (s7_or hca (s7_b1 (by omega)))) vX12_404 [5, 0, 6, 1, 2, 7, 8, 9, 10, 11, 12, 3, 4] [] rfl rfl rfl rfl rfl rfl hl.1 rfl (Nat.le_of_ble_eq_true rfl) ⟨by show _ ≤ dd + 1; omega, by show _ ≤ 40 * (dd + 1); omega⟩ ⟨Nat.le_of_ble_eq_true rfl, Nat.le_of_ble_eq_true rfl⟩ dX12_goRows_226 (fun u9 H locs hq hW => ?_)
                    obtain rfl := hq
                    have hW : WD g A s _ _ [(h0, .inr (12, vs)), (b6, .inl (g.2.1 1, 11, .inl rP)), (b7, .inl (g.2.1 1, 11, .inl rL)), (b8, .inl (g.2.1 1, 11, .inl rD)), (b11, .inl (g.2.1 1, 44, .inl rS)), (b12, .inl (g.2.1 1, 132, .inl rA)), (b13, .inl (g.2.1 1, 132, .inl rB)), (b14, .inl (g.2.1 1, 132, .inl rF)), (b15, .inl (g.2.1 1, 132, .inl rT)), (b16, .inl (g.2.1 1, 132, .inl rW)), (b17, .inl (g.2.1 3, 132, .inl rO)), (b61, .inl (g.2.1 1, 308, .inl tA)), (b63, .inl (g.2.1 3, 16384, .inl (R (fj + 1) ((bu ||| ((1 : Int32) <<< ((nI fj) &&& 31))) ||| ((1 : Int32) <<< ((nI j1) &&& 31))) (ca ||| ((1 : Int32) <<< ((nI j1) &&& 31))) fb63_1)))] := hW
                    refine lv_iinc (v := nI (j1 + 1)) (lv' := [(11, .int (nI (j1 + 1))), (10, .int 1), (9, .int (rS (4 * i + ni))), (0, .ref h0), (1, .int (nI i)), (2, .int (nI ni)), (3, .int (nI h)), (4, .int kw), (5, .int oz), (6, .int (nI fj)), (7, .int bu), (8, .int ca)]) (pc := 229) hx hb dX12_goRows_229 hl (k := 0) rfl (nI_add j1 1) (by decide) rfl (fun ls hl => ?_)
                    refine lv_goto (tgt := 139) (pc := 232) hx hb dX12_goRows_232 rfl ?_
                    exact ih1 (j1 + 1) (R (fj + 1) ((bu ||| ((1 : Int32) <<< ((nI fj) &&& 31))) ||| ((1 : Int32) <<< ((nI j1) &&& 31))) (ca ||| ((1 : Int32) <<< ((nI j1) &&& 31))) fb63_1) (by omega) (by omega) (by rw [L1_X12_goRows, ← hst1]; exact (show L1_X12_goRowss rS rA rB rF rT rW rO lc i ni h kw fj bu ca R j1 fb63_1 = (R (fj + 1) ((bu ||| ((1 : Int32) <<< ((nI fj) &&& 31))) ||| ((1 : Int32) <<< ((nI j1) &&& 31))) (ca ||| ((1 : Int32) <<< ((nI j1) &&& 31))) fb63_1) from by rw [L1_X12_goRowss, if_neg c33, if_neg c36, if_neg c40]).symm) _ _ _ hW (lv_sub hl [0, 1, 2, 3, 4, 5, 6, 7, 8, 9, 10, 11] rfl)
                  · refine lv_goto (tgt := 229) (pc := 192) hx hb dX12_goRows_192 rfl ?_
                    refine lv_iinc (v := nI (j1 + 1)) (lv' := [(11, .int (nI (j1 + 1))), (10, .int 1), (9, .int (rS (4 * i + ni))), (0, .ref h0), (1, .int (nI i)), (2, .int (nI ni)), (3, .int (nI h)), (4, .int kw), (5, .int oz), (6, .int (nI fj)), (7, .int bu), (8, .int ca)]) (pc := 229) hx hb dX12_goRows_229 hl (k := 0) rfl (nI_add j1 1) (by decide) rfl (fun ls hl => ?_)
                    refine lv_goto (tgt := 139) (pc := 232) hx hb dX12_goRows_232 rfl ?_
                    have hW : WD g A s _ _ [(h0, .inr (12, vs)), (b6, .inl (g.2.1 1, 11, .inl rP)), (b7, .inl (g.2.1 1, 11, .inl rL)), (b8, .inl (g.2.1 1, 11, .inl rD)), (b11, .inl (g.2.1 1, 44, .inl rS)), (b12, .inl (g.2.1 1, 132, .inl rA)), (b13, .inl (g.2.1 1, 132, .inl rB)), (b14, .inl (g.2.1 1, 132, .inl rF)), (b15, .inl (g.2.1 1, 132, .inl rT)), (b16, .inl (g.2.1 1, 132, .inl rW)), (b17, .inl (g.2.1 3, 132, .inl rO)), (b61, .inl (g.2.1 1, 308, .inl tA)), (b63, .inl (g.2.1 3, 16384, .inl fb63_1))] := hW.pick [5, 0, 6, 1, 2, 7, 8, 9, 10, 11, 12, 3, 4] rfl rfl
                    exact ih1 (j1 + 1) fb63_1 (by omega) (by omega) (by rw [L1_X12_goRows, ← hst1]; exact (show L1_X12_goRowss rS rA rB rF rT rW rO lc i ni h kw fj bu ca R j1 fb63_1 = fb63_1 from by rw [L1_X12_goRowss, if_neg c33, if_neg c36, if_pos c40]).symm) _ _ _ hW (lv_sub hl [0, 1, 2, 3, 4, 5, 6, 7, 8, 9, 10, 11] rfl)
        exact loop1 (pe + 1) 0 dN (by omega) (by omega) rfl _ _ _ hW (lv_sub hl [0, 1, 2, 3, 4, 5, 6, 7, 8, 9, 10, 11] rfl)

def F_X12_goRowsL (rD : Nat → Int32) (tA : Nat → Int32) (dN : Nat → Int32) (pe : Nat) (i : Nat) (ni : Nat) (h : Nat) (kw : Int32) (oz : Int32) (ca : Int32) : (Nat → Int32) := if F_X12_isAsTold tA pe i ni (kw ||| ((ca &&& (kw ^^^ (-1 : Int32))) &&& (((rD i) ^^^ (-1 : Int32)) ||| oz))) h = 0 then (dN) else ((upd dN (128 * (tN (kw ||| ((ca &&& (kw ^^^ (-1 : Int32))) &&& (((rD i) ^^^ (-1 : Int32)) ||| oz)))) + tN (((oz ||| (ca &&& (kw ^^^ (-1 : Int32)))) &&& (rD i)) &&& ((kw ||| ((ca &&& (kw ^^^ (-1 : Int32))) &&& (((rD i) ^^^ (-1 : Int32)) ||| oz))) ^^^ (-1 : Int32)))) (1 : Int32)))
set_option maxHeartbeats 4000000 in
set_option maxRecDepth 100000 in
theorem K_X12_goRowsL (l : Launch) (g : GG) (h0 : Nat) (vs : List Value) (b6 : Nat) (rP : Nat → Int32) (b7 : Nat) (rL : Nat → Int32) (b8 : Nat) (rD : Nat → Int32) (b11 : Nat) (rS : Nat → Int32) (b12 : Nat) (rA : Nat → Int32) (b13 : Nat) (rB : Nat → Int32) (b14 : Nat) (rF : Nat → Int32) (b15 : Nat) (rT : Nat → Int32) (b16 : Nat) (rW : Nat → Int32) (b17 : Nat) (rO : Nat → Int32) (b61 : Nat) (tA : Nat → Int32) (b63 : Nat) (dN : Nat → Int32) (lc : Nat) (pe : Nat) (i : Nat) (ni : Nat) (h : Nat) (kw : Int32) (oz : Int32) (bu : Int32) (ca : Int32) (hlen : vs.length = 64) (h6_ : vs[6]? = some (.ref b6)) (h7_ : vs[7]? = some (.ref b7)) (h8_ : vs[8]? = some (.ref b8)) (h11_ : vs[11]? = some (.ref b11)) (h12_ : vs[12]? = some (.ref b12)) (h13_ : vs[13]? = some (.ref b13)) (h14_ : vs[14]? = some (.ref b14)) (h15_ : vs[15]? = some (.ref b15)) (h16_ : vs[16]? = some (.ref b16)) (h17_ : vs[17]? = some (.ref b17)) (h61_ : vs[61]? = some (.ref b61)) (h63_ : vs[63]? = some (.ref b63)) (hi : i < 11) (hlc : lc ≤ 12) (hL : rL i = nI lc) (hpe : pe ≤ 7) (hP : rP i = nI pe) (hni : ni < 4) (h19_ : vs[19]? = some (.int (-1))) (h20_ : vs[20]? = some (.int (-1))) (hh : h ≤ 24) (hkw : s7 kw) (hoz : s7 oz) (hca : s7 ca) : MetV l g yX12_goRows cX12_goRows 12 none 2 0 0 [.ref h0, .int (nI i), .int (nI ni), .int (nI h), .int kw, .int oz, .int (nI pe), .int bu, .int ca] [(h0, .inr (12, vs)), (b6, .inl (g.2.1 1, 11, .inl rP)), (b7, .inl (g.2.1 1, 11, .inl rL)), (b8, .inl (g.2.1 1, 11, .inl rD)), (b11, .inl (g.2.1 1, 44, .inl rS)), (b12, .inl (g.2.1 1, 132, .inl rA)), (b13, .inl (g.2.1 1, 132, .inl rB)), (b14, .inl (g.2.1 1, 132, .inl rF)), (b15, .inl (g.2.1 1, 132, .inl rT)), (b16, .inl (g.2.1 1, 132, .inl rW)), (b17, .inl (g.2.1 3, 132, .inl rO)), (b61, .inl (g.2.1 1, 308, .inl tA)), (b63, .inl (g.2.1 3, 16384, .inl dN))] (fun u => u = [(h0, .inr (12, vs)), (b6, .inl (g.2.1 1, 11, .inl rP)), (b7, .inl (g.2.1 1, 11, .inl rL)), (b8, .inl (g.2.1 1, 11, .inl rD)), (b11, .inl (g.2.1 1, 44, .inl rS)), (b12, .inl (g.2.1 1, 132, .inl rA)), (b13, .inl (g.2.1 1, 132, .inl rB)), (b14, .inl (g.2.1 1, 132, .inl rF)), (b15, .inl (g.2.1 1, 132, .inl rT)), (b16, .inl (g.2.1 1, 132, .inl rW)), (b17, .inl (g.2.1 3, 132, .inl rO)), (b61, .inl (g.2.1 1, 308, .inl tA)), (b63, .inl (g.2.1 3, 16384, .inl (F_X12_goRowsL rD tA dN pe i ni h kw oz ca)))]) := by
  refine MetV.of (own := RX12) rfl (by decide) (Nat.le_of_ble_eq_true rfl) ?_
  intro p e s m below meth c A ls args Q hQ X hr hin hW hl
  have hx := X.1
  have hb := X.2.1
  have hl : lv_has ls 12 [(0, .ref h0), (1, .int (nI i)), (2, .int (nI ni)), (3, .int (nI h)), (4, .int kw), (5, .int oz), (6, .int (nI pe)), (7, .int bu), (8, .int ca)] := hl
  refine lv_iload (pc := 0) hx hb dX12_goRows_0 (lv_at hl 6 rfl) ?_
  refine lv_aload_n (pc := 2) hx hb dX12_goRows_2 rfl (lv_at hl 0 rfl) ?_
  refine r_get X hW 0 ciX12 6 rfl (by decide) m_1237 rfl h6_ dX12_goRows_3 ?_
  refine lv_iload_n (pc := 6) hx hb dX12_goRows_6 rfl (lv_at hl 1 rfl) ?_
  refine r_iald X hW 1 rfl (vp_in_nI (by omega) (by decide)) dX12_goRows_7 ?_
  refine lv_topi (fun v1 ev1 => ?_)
  obtain rfl : v1 = rP i := ev1.trans (by rw [nI_clamp (by omega)])
  rw [hP]
  refine lv_icmp_ne (tgt := 86) (pc := 8) hx hb dX12_goRows_8 rfl (fun c2 => absurd rfl c2) (fun c2 => ?_)
  refine lv_iload (pc := 11) hx hb dX12_goRows_11 (lv_at hl 8 rfl) ?_
  refine lv_iload (pc := 13) hx hb dX12_goRows_13 (lv_at hl 4 rfl) ?_
  refine lv_iconst (v := (-1)) (pc := 15) hx hb dX12_goRows_15 (by decide) ?_
  refine lv_ixor (pc := 16) hx hb dX12_goRows_16 ?_
  refine lv_iand (pc := 17) hx hb dX12_goRows_17 ?_
  refine lv_istore (lv' := [(9, .int (ca &&& (kw ^^^ (-1 : Int32)))), (0, .ref h0), (1, .int (nI i)), (2, .int (nI ni)), (3, .int (nI h)), (4, .int kw), (5, .int oz), (6, .int (nI pe)), (7, .int bu), (8, .int ca)]) (pc := 18) hx hb dX12_goRows_18 hl (by decide) rfl (fun ls hl => ?_)
  refine lv_iload (pc := 20) hx hb dX12_goRows_20 (lv_at hl 0 rfl) ?_
  refine lv_aload_n (pc := 22) hx hb dX12_goRows_22 rfl (lv_at hl 1 rfl) ?_
  refine r_get X hW 0 ciX12 8 rfl (by decide) m_1239 rfl h8_ dX12_goRows_23 ?_
  refine lv_iload_n (pc := 26) hx hb dX12_goRows_26 rfl (lv_at hl 2 rfl) ?_
  refine r_iald X hW 3 rfl (vp_in_nI (by omega) (by decide)) dX12_goRows_27 ?_
  refine lv_topi (fun v3 ev3 => ?_)
  obtain rfl : v3 = rD i := ev3.trans (by rw [nI_clamp (by omega)])
  refine lv_iconst (v := (-1)) (pc := 28) hx hb dX12_goRows_28 (by decide) ?_
  refine lv_ixor (pc := 29) hx hb dX12_goRows_29 ?_
  refine lv_iload (pc := 30) hx hb dX12_goRows_30 (lv_at hl 6 rfl) ?_
  refine lv_ior (pc := 32) hx hb dX12_goRows_32 ?_
  refine lv_iand (pc := 33) hx hb dX12_goRows_33 ?_
  refine lv_istore (lv' := [(10, .int ((ca &&& (kw ^^^ (-1 : Int32))) &&& (((rD i) ^^^ (-1 : Int32)) ||| oz))), (9, .int (ca &&& (kw ^^^ (-1 : Int32)))), (0, .ref h0), (1, .int (nI i)), (2, .int (nI ni)), (3, .int (nI h)), (4, .int kw), (5, .int oz), (6, .int (nI pe)), (7, .int bu), (8, .int ca)]) (pc := 34) hx hb dX12_goRows_34 hl (by decide) rfl (fun ls hl => ?_)
  refine lv_iload (pc := 36) hx hb dX12_goRows_36 (lv_at hl 6 rfl) ?_
  refine lv_iload (pc := 38) hx hb dX12_goRows_38 (lv_at hl 0 rfl) ?_
  refine lv_ior (pc := 40) hx hb dX12_goRows_40 ?_
  refine lv_istore (lv' := [(11, .int (kw ||| ((ca &&& (kw ^^^ (-1 : Int32))) &&& (((rD i) ^^^ (-1 : Int32)) ||| oz)))), (10, .int ((ca &&& (kw ^^^ (-1 : Int32))) &&& (((rD i) ^^^ (-1 : Int32)) ||| oz))), (9, .int (ca &&& (kw ^^^ (-1 : Int32)))), (0, .ref h0), (1, .int (nI i)), (2, .int (nI ni)), (3, .int (nI h)), (4, .int kw), (5, .int oz), (6, .int (nI pe)), (7, .int bu), (8, .int ca)]) (pc := 41) hx hb dX12_goRows_41 hl (by decide) rfl (fun ls hl => ?_)
  refine lv_aload_n (pc := 43) hx hb dX12_goRows_43 rfl (lv_at hl 3 rfl) ?_
  refine lv_iload_n (pc := 44) hx hb dX12_goRows_44 rfl (lv_at hl 4 rfl) ?_
  refine lv_iload_n (pc := 45) hx hb dX12_goRows_45 rfl (lv_at hl 5 rfl) ?_
  refine lv_iload (pc := 46) hx hb dX12_goRows_46 (lv_at hl 0 rfl) ?_
  refine lv_iload_n (pc := 48) hx hb dX12_goRows_48 rfl (lv_at hl 6 rfl) ?_
  refine c_Vi (pc := 49) (As := [.int (nI i), .int (nI ni), .int (kw ||| ((ca &&& (kw ^^^ (-1 : Int32))) &&& (((rD i) ^^^ (-1 : Int32)) ||| oz))), .int (nI h)]) (rest := []) (wr := [(b7, .inl (g.2.1 1, 11, .inl rL)), (b8, .inl (g.2.1 1, 11, .inl rD)), (b11, .inl (g.2.1 1, 44, .inl rS)), (b12, .inl (g.2.1 1, 132, .inl rA)), (b13, .inl (g.2.1 1, 132, .inl rB)), (b14, .inl (g.2.1 1, 132, .inl rF)), (b15, .inl (g.2.1 1, 132, .inl rT)), (b16, .inl (g.2.1 1, 132, .inl rW)), (b17, .inl (g.2.1 3, 132, .inl rO)), (b63, .inl (g.2.1 3, 16384, .inl dN))]) X hW 0 ciX12 rfl (K_X12_isAsTold l g h0 vs b6 rP b61 tA pe i ni (kw ||| ((ca &&& (kw ^^^ (-1 : Int32))) &&& (((rD i) ^^^ (-1 : Int32)) ||| oz))) h hlen h6_ h61_ hi hpe hP hni) vX12_401 [0, 1, 11] [2, 3, 4, 5, 6, 7, 8, 9, 10, 12] rfl rfl rfl rfl rfl rfl hl.1 rfl (Nat.le_of_ble_eq_true rfl) ⟨Nat.le_of_ble_eq_true rfl, Nat.le_of_ble_eq_true rfl⟩ ⟨Nat.le_of_ble_eq_true rfl, Nat.le_of_ble_eq_true rfl⟩ dX12_goRows_49 (fun r4 u9 H locs hq hW => ?_)
  obtain ⟨rfl, rfl⟩ := hq
  have hW : WD g A s _ _ [(b7, .inl (g.2.1 1, 11, .inl rL)), (b8, .inl (g.2.1 1, 11, .inl rD)), (b11, .inl (g.2.1 1, 44, .inl rS)), (b12, .inl (g.2.1 1, 132, .inl rA)), (b13, .inl (g.2.1 1, 132, .inl rB)), (b14, .inl (g.2.1 1, 132, .inl rF)), (b15, .inl (g.2.1 1, 132, .inl rT)), (b16, .inl (g.2.1 1, 132, .inl rW)), (b17, .inl (g.2.1 3, 132, .inl rO)), (b63, .inl (g.2.1 3, 16384, .inl dN)), (h0, .inr (12, vs)), (b6, .inl (g.2.1 1, 11, .inl rP)), (b61, .inl (g.2.1 1, 308, .inl tA))] := hW
  refine lv_if_eq (tgt := 85) (pc := 52) hx hb dX12_goRows_52 rfl (fun c5 => ?_) (fun c5 => ?_)
  · have hF : F_X12_goRowsL rD tA dN pe i ni h kw oz ca = dN := show F_X12_goRowsL rD tA dN pe i ni h kw oz ca = dN from by rw [F_X12_goRowsL, if_pos c5]
    exact e_v (u := [(h0, .inr (12, vs)), (b6, .inl (g.2.1 1, 11, .inl rP)), (b7, .inl (g.2.1 1, 11, .inl rL)), (b8, .inl (g.2.1 1, 11, .inl rD)), (b11, .inl (g.2.1 1, 44, .inl rS)), (b12, .inl (g.2.1 1, 132, .inl rA)), (b13, .inl (g.2.1 1, 132, .inl rB)), (b14, .inl (g.2.1 1, 132, .inl rF)), (b15, .inl (g.2.1 1, 132, .inl rT)), (b16, .inl (g.2.1 1, 132, .inl rW)), (b17, .inl (g.2.1 3, 132, .inl rO)), (b61, .inl (g.2.1 1, 308, .inl tA)), (b63, .inl (g.2.1 3, 16384, .inl dN))]) X hQ hr (hW) [10, 11, 0, 1, 2, 3, 4, 5, 6, 7, 8, 12, 9] rfl rfl (by rw [hF]) ⟨Nat.le_of_ble_eq_true rfl, Nat.le_of_ble_eq_true rfl⟩ dX12_goRows_85
  · refine lv_aload_n (pc := 55) hx hb dX12_goRows_55 rfl (lv_at hl 3 rfl) ?_
    refine r_get X hW 10 ciX12 63 rfl (by decide) m_1290 rfl h63_ dX12_goRows_56 ?_
    refine lv_sipush (v := 128) (pc := 59) hx hb dX12_goRows_59 (by decide) ?_
    refine lv_iload (pc := 62) hx hb dX12_goRows_62 (lv_at hl 0 rfl) ?_
    have hk5 : s7 (kw ||| ((ca &&& (kw ^^^ (-1 : Int32))) &&& (((rD i) ^^^ (-1 : Int32)) ||| oz))) := s7_or hkw (s7_al (s7_al hca))
    have hk6 := (s7_num hk5).2
    rw [(s7_num hk5).1]
    refine lv_imul (pc := 64) hx hb dX12_goRows_64 ?_
    refine lv_topi (fun v8 ev8 => ?_)
    obtain rfl : v8 = nI (128 * (tN (kw ||| ((ca &&& (kw ^^^ (-1 : Int32))) &&& (((rD i) ^^^ (-1 : Int32)) ||| oz))))) := ev8.trans (pk_mul 128 (tN (kw ||| ((ca &&& (kw ^^^ (-1 : Int32))) &&& (((rD i) ^^^ (-1 : Int32)) ||| oz)))))
    refine lv_iload (pc := 65) hx hb dX12_goRows_65 (lv_at hl 8 rfl) ?_
    refine lv_iload (pc := 67) hx hb dX12_goRows_67 (lv_at hl 2 rfl) ?_
    refine lv_ior (pc := 69) hx hb dX12_goRows_69 ?_
    refine lv_aload_n (pc := 70) hx hb dX12_goRows_70 rfl (lv_at hl 3 rfl) ?_
    refine r_get X hW 10 ciX12 8 rfl (by decide) m_1239 rfl h8_ dX12_goRows_71 ?_
    refine lv_iload_n (pc := 74) hx hb dX12_goRows_74 rfl (lv_at hl 4 rfl) ?_
    refine r_iald X hW 1 rfl (vp_in_nI (by omega) (by decide)) dX12_goRows_75 ?_
    refine lv_topi (fun v9 ev9 => ?_)
    obtain rfl : v9 = rD i := ev9.trans (by rw [nI_clamp (by omega)])
    refine lv_iand (pc := 76) hx hb dX12_goRows_76 ?_
    refine lv_iload (pc := 77) hx hb dX12_goRows_77 (lv_at hl 0 rfl) ?_
    refine lv_iconst (v := (-1)) (pc := 79) hx hb dX12_goRows_79 (by decide) ?_
    refine lv_ixor (pc := 80) hx hb dX12_goRows_80 ?_
    refine lv_iand (pc := 81) hx hb dX12_goRows_81 ?_
    have ho5 : s7 (((oz ||| (ca &&& (kw ^^^ (-1 : Int32)))) &&& (rD i)) &&& ((kw ||| ((ca &&& (kw ^^^ (-1 : Int32))) &&& (((rD i) ^^^ (-1 : Int32)) ||| oz))) ^^^ (-1 : Int32))) := s7_al (s7_al (s7_or hoz (s7_al hca)))
    have ho6 := (s7_num ho5).2
    rw [(s7_num ho5).1]
    refine lv_iadd (pc := 82) hx hb dX12_goRows_82 ?_
    refine lv_topi (fun v10 ev10 => ?_)
    obtain rfl : v10 = nI (128 * (tN (kw ||| ((ca &&& (kw ^^^ (-1 : Int32))) &&& (((rD i) ^^^ (-1 : Int32)) ||| oz)))) + tN (((oz ||| (ca &&& (kw ^^^ (-1 : Int32)))) &&& (rD i)) &&& ((kw ||| ((ca &&& (kw ^^^ (-1 : Int32))) &&& (((rD i) ^^^ (-1 : Int32)) ||| oz))) ^^^ (-1 : Int32)))) := ev10.trans (nI_add _ _)
    refine lv_iconst (v := 1) (pc := 83) hx hb dX12_goRows_83 (by decide) ?_
    refine r_zast (ws' := [(b7, .inl (g.2.1 1, 11, .inl rL)), (b8, .inl (g.2.1 1, 11, .inl rD)), (b11, .inl (g.2.1 1, 44, .inl rS)), (b12, .inl (g.2.1 1, 132, .inl rA)), (b13, .inl (g.2.1 1, 132, .inl rB)), (b14, .inl (g.2.1 1, 132, .inl rF)), (b15, .inl (g.2.1 1, 132, .inl rT)), (b16, .inl (g.2.1 1, 132, .inl rW)), (b17, .inl (g.2.1 3, 132, .inl rO)), (b63, .inl (g.2.1 3, 16384, .inl (upd dN (128 * (tN (kw ||| ((ca &&& (kw ^^^ (-1 : Int32))) &&& (((rD i) ^^^ (-1 : Int32)) ||| oz)))) + tN (((oz ||| (ca &&& (kw ^^^ (-1 : Int32)))) &&& (rD i)) &&& ((kw ||| ((ca &&& (kw ^^^ (-1 : Int32))) &&& (((rD i) ^^^ (-1 : Int32)) ||| oz))) ^^^ (-1 : Int32)))) (1 : Int32)))), (h0, .inr (12, vs)), (b6, .inl (g.2.1 1, 11, .inl rP)), (b61, .inl (g.2.1 1, 308, .inl tA))]) X hW 9 rfl (vp_in_nI (by omega) (by decide)) (f' := (upd dN (128 * (tN (kw ||| ((ca &&& (kw ^^^ (-1 : Int32))) &&& (((rD i) ^^^ (-1 : Int32)) ||| oz)))) + tN (((oz ||| (ca &&& (kw ^^^ (-1 : Int32)))) &&& (rD i)) &&& ((kw ||| ((ca &&& (kw ^^^ (-1 : Int32))) &&& (((rD i) ^^^ (-1 : Int32)) ||| oz))) ^^^ (-1 : Int32)))) (1 : Int32))) (by rw [nI_clamp (by omega), show vp_nar .boolean (1 : Int32) = (1 : Int32) from by decide]) rfl dX12_goRows_84 (fun H locs hW => ?_)
    have hF : F_X12_goRowsL rD tA dN pe i ni h kw oz ca = (upd dN (128 * (tN (kw ||| ((ca &&& (kw ^^^ (-1 : Int32))) &&& (((rD i) ^^^ (-1 : Int32)) ||| oz)))) + tN (((oz ||| (ca &&& (kw ^^^ (-1 : Int32)))) &&& (rD i)) &&& ((kw ||| ((ca &&& (kw ^^^ (-1 : Int32))) &&& (((rD i) ^^^ (-1 : Int32)) ||| oz))) ^^^ (-1 : Int32)))) (1 : Int32)) := show F_X12_goRowsL rD tA dN pe i ni h kw oz ca = (upd dN (128 * (tN (kw ||| ((ca &&& (kw ^^^ (-1 : Int32))) &&& (((rD i) ^^^ (-1 : Int32)) ||| oz)))) + tN (((oz ||| (ca &&& (kw ^^^ (-1 : Int32)))) &&& (rD i)) &&& ((kw ||| ((ca &&& (kw ^^^ (-1 : Int32))) &&& (((rD i) ^^^ (-1 : Int32)) ||| oz))) ^^^ (-1 : Int32)))) (1 : Int32)) from by rw [F_X12_goRowsL, if_neg c5]
    exact e_v (u := [(h0, .inr (12, vs)), (b6, .inl (g.2.1 1, 11, .inl rP)), (b7, .inl (g.2.1 1, 11, .inl rL)), (b8, .inl (g.2.1 1, 11, .inl rD)), (b11, .inl (g.2.1 1, 44, .inl rS)), (b12, .inl (g.2.1 1, 132, .inl rA)), (b13, .inl (g.2.1 1, 132, .inl rB)), (b14, .inl (g.2.1 1, 132, .inl rF)), (b15, .inl (g.2.1 1, 132, .inl rT)), (b16, .inl (g.2.1 1, 132, .inl rW)), (b17, .inl (g.2.1 3, 132, .inl rO)), (b61, .inl (g.2.1 1, 308, .inl tA)), (b63, .inl (g.2.1 3, 16384, .inl (upd dN (128 * (tN (kw ||| ((ca &&& (kw ^^^ (-1 : Int32))) &&& (((rD i) ^^^ (-1 : Int32)) ||| oz)))) + tN (((oz ||| (ca &&& (kw ^^^ (-1 : Int32)))) &&& (rD i)) &&& ((kw ||| ((ca &&& (kw ^^^ (-1 : Int32))) &&& (((rD i) ^^^ (-1 : Int32)) ||| oz))) ^^^ (-1 : Int32)))) (1 : Int32))))]) X hQ hr (hW) [10, 11, 0, 1, 2, 3, 4, 5, 6, 7, 8, 12, 9] rfl rfl (by rw [hF]) ⟨Nat.le_of_ble_eq_true rfl, Nat.le_of_ble_eq_true rfl⟩ dX12_goRows_85

def GRf (h : Nat) (i : Nat) (kw : Int32) (lc : Nat) (ni : Nat) (oz : Int32) (pe : Nat) (rA : Nat → Int32) (rB : Nat → Int32) (rD : Nat → Int32) (rF : Nat → Int32) (rO : Nat → Int32) (rS : Nat → Int32) (rT : Nat → Int32) (rW : Nat → Int32) (tA : Nat → Int32) : Nat → GRT
  | 0 => fun _ _ ca dN => F_X12_goRowsL rD tA dN pe i ni h kw oz ca
  | f + 1 => fun fj bu ca dN => F_X12_goRows rS rA rB rF rT rW rO dN lc pe i ni h kw fj bu ca (GRf h i kw lc ni oz pe rA rB rD rF rO rS rT rW tA f)
theorem K_gr (l : Launch) (g : GG) (h0 : Nat) (vs : List Value) (b6 : Nat) (rP : Nat → Int32) (b7 : Nat) (rL : Nat → Int32) (b8 : Nat) (rD : Nat → Int32) (b11 : Nat) (rS : Nat → Int32) (b12 : Nat) (rA : Nat → Int32) (b13 : Nat) (rB : Nat → Int32) (b14 : Nat) (rF : Nat → Int32) (b15 : Nat) (rT : Nat → Int32) (b16 : Nat) (rW : Nat → Int32) (b17 : Nat) (rO : Nat → Int32) (b61 : Nat) (tA : Nat → Int32) (b63 : Nat) (lc : Nat) (pe : Nat) (i : Nat) (ni : Nat) (h : Nat) (kw oz : Int32) (hlen : vs.length = 64) (h6_ : vs[6]? = some (.ref b6)) (h7_ : vs[7]? = some (.ref b7)) (h8_ : vs[8]? = some (.ref b8)) (h11_ : vs[11]? = some (.ref b11)) (h12_ : vs[12]? = some (.ref b12)) (h13_ : vs[13]? = some (.ref b13)) (h14_ : vs[14]? = some (.ref b14)) (h15_ : vs[15]? = some (.ref b15)) (h16_ : vs[16]? = some (.ref b16)) (h17_ : vs[17]? = some (.ref b17)) (h61_ : vs[61]? = some (.ref b61)) (h63_ : vs[63]? = some (.ref b63)) (hi : i < 11) (hlc : lc ≤ 12) (hL : rL i = nI lc) (hpe : pe ≤ 7) (hP : rP i = nI pe) (hni : ni < 4) (h19_ : vs[19]? = some (.int (-1))) (h20_ : vs[20]? = some (.int (-1))) (hh : h ≤ 24) (hkw : s7 kw) (hoz : s7 oz) : ∀ (f fj : Nat), fj + f = pe → ∀ (dN : Nat → Int32) (bu ca : Int32), s7 ca → MetV l g yX12_goRows cX12_goRows 12 none (1 + f + 1) 0 0 [.ref h0, .int (nI i), .int (nI ni), .int (nI h), .int kw, .int oz, .int (nI fj), .int bu, .int ca] [(h0, .inr (12, vs)), (b6, .inl (g.2.1 1, 11, .inl rP)), (b7, .inl (g.2.1 1, 11, .inl rL)), (b8, .inl (g.2.1 1, 11, .inl rD)), (b11, .inl (g.2.1 1, 44, .inl rS)), (b12, .inl (g.2.1 1, 132, .inl rA)), (b13, .inl (g.2.1 1, 132, .inl rB)), (b14, .inl (g.2.1 1, 132, .inl rF)), (b15, .inl (g.2.1 1, 132, .inl rT)), (b16, .inl (g.2.1 1, 132, .inl rW)), (b17, .inl (g.2.1 3, 132, .inl rO)), (b61, .inl (g.2.1 1, 308, .inl tA)), (b63, .inl (g.2.1 3, 16384, .inl dN))] (fun u => u = [(h0, .inr (12, vs)), (b6, .inl (g.2.1 1, 11, .inl rP)), (b7, .inl (g.2.1 1, 11, .inl rL)), (b8, .inl (g.2.1 1, 11, .inl rD)), (b11, .inl (g.2.1 1, 44, .inl rS)), (b12, .inl (g.2.1 1, 132, .inl rA)), (b13, .inl (g.2.1 1, 132, .inl rB)), (b14, .inl (g.2.1 1, 132, .inl rF)), (b15, .inl (g.2.1 1, 132, .inl rT)), (b16, .inl (g.2.1 1, 132, .inl rW)), (b17, .inl (g.2.1 3, 132, .inl rO)), (b61, .inl (g.2.1 1, 308, .inl tA)), (b63, .inl (g.2.1 3, 16384, .inl (GRf h i kw lc ni oz pe rA rB rD rF rO rS rT rW tA f fj bu ca dN)))])
  | 0, fj, e => fun dN bu ca hca => by
    have e9 : fj = pe := by omega
    rw [e9]
    exact K_X12_goRowsL l g h0 vs b6 rP b7 rL b8 rD b11 rS b12 rA b13 rB b14 rF b15 rT b16 rW b17 rO b61 tA b63 dN lc pe i ni h kw oz bu ca hlen h6_ h7_ h8_ h11_ h12_ h13_ h14_ h15_ h16_ h17_ h61_ h63_ hi hlc hL hpe hP hni h19_ h20_ hh hkw hoz hca
  | f + 1, fj, e => fun dN bu ca hca => K_X12_goRows l g h0 vs b6 rP b7 rL b8 rD b11 rS b12 rA b13 rB b14 rF b15 rT b16 rW b17 rO b61 tA b63 dN lc pe i ni h kw oz fj bu ca (GRf h i kw lc ni oz pe rA rB rD rF rO rS rT rW tA f) (1 + f + 1) (by omega) hlen h6_ h7_ h8_ h11_ h12_ h13_ h14_ h15_ h16_ h17_ h61_ h63_ hi hlc hL hpe hP hni h19_ h20_ (by omega) hh hkw hoz hca (fun N bu ca hca => K_gr l g h0 vs b6 rP b7 rL b8 rD b11 rS b12 rA b13 rB b14 rF b15 rT b16 rW b17 rO b61 tA b63 lc pe i ni h kw oz hlen h6_ h7_ h8_ h11_ h12_ h13_ h14_ h15_ h16_ h17_ h61_ h63_ hi hlc hL hpe hP hni h19_ h20_ hh hkw hoz f (fj + 1) (by omega) N bu ca hca)
theorem Met.widf {l : Launch} {y : MethodName} {ws : List Cond} {d d' mc ms : Nat} {P : Array Value → State → Prop} {Q : Array Value → State → Outcome → State → Prop} {mc2 ms2 : Nat} {f : Nat → Prop} (h : Met l y ws (RM d mc ms) P Q mc2 ms2 f) (hd : d ≤ d') : Met l y ws (RM d' mc ms) P Q mc2 ms2 f := by
  intro p e h1 h2 h3 s m args below h4 h5 h6 h7
  refine h p e h1 h2 h3 s m args below h4 ?_ h6 h7
  have q := (Spec.appliesLoose_iff h4).mp h5
  refine (Spec.appliesLoose_iff h4).mpr ⟨q.1, q.2.1, q.2.2.1, q.2.2.2.1, q.2.2.2.2.1, q.2.2.2.2.2.1, ?_, q.2.2.2.2.2.2.2⟩
  have hr := q.2.2.2.2.2.2.1
  unfold State.hasRoom at hr ⊢
  obtain ⟨r, r5⟩ := Bool.and_eq_true_iff.mp hr
  obtain ⟨r, r4⟩ := Bool.and_eq_true_iff.mp r
  obtain ⟨r, r3⟩ := Bool.and_eq_true_iff.mp r
  obtain ⟨r1, r2⟩ := Bool.and_eq_true_iff.mp r
  have r1 := of_decide_eq_true r1
  have r2 := of_decide_eq_true r2
  have h40 : 40 * d ≤ 40 * d' := Nat.mul_le_mul_left _ hd
  exact Bool.and_eq_true_iff.mpr ⟨Bool.and_eq_true_iff.mpr ⟨Bool.and_eq_true_iff.mpr ⟨Bool.and_eq_true_iff.mpr ⟨decide_eq_true (Nat.le_trans (Nat.add_le_add_right (Nat.add_le_add_left h40 _) _) r1), decide_eq_true ⟨Nat.le_trans (Nat.add_le_add_left hd _) r2.1, Nat.le_trans (Nat.add_le_add_left hd _) r2.2.1, Nat.le_trans (Nat.add_le_add_left h40 _) r2.2.2.1, Nat.le_trans (Nat.add_le_add_left h40 _) r2.2.2.2.1, r2.2.2.2.2⟩⟩, r3⟩, r4⟩, r5⟩
theorem MetV.up {l : Launch} {g : GG} {y : MethodName} {cc : ByteArray} {n : Nat} {r : Option FieldType} {d d' : Nat} {As : List Value} {ws : va_W} {post : va_W → Prop} (h : MetV l g y cc n r d 0 0 As ws post) (hd : d ≤ d') : MetV l g y cc n r d' 0 0 As ws post := fun sz => Met.widf (h sz) hd
theorem zb_of {x : Int32} (h : x = 0 ∨ x = 1) : zb x = x := by
  rcases h with h | h
  · rw [h]; exact zb_0
  · rw [h]; exact zb_1
def L4_X12_canBegins (rD : Nat → Int32) (rS : Nat → Int32) (rA : Nat → Int32) (rB : Nat → Int32) (rF : Nat → Int32) (rT : Nat → Int32) (rW : Nat → Int32) (rO : Nat → Int32) (tA : Nat → Int32) (lc : Nat) (pe : Nat) (i : Nat) (ni : Nat) (j2 : Nat) (fb62_2 : Nat → Int32) (j4 : Nat) (fb63_4 : Nat → Int32) : (Nat → Int32) := if fb62_2 j4 = 0 then (fb63_4) else ((GRf (j2 + 1) i (nI (j4 / 128)) lc ni (nI (j4 % 128)) pe rA rB rD rF rO rS rT rW tA pe 0 0 0 fb63_4))
def L4_X12_canBegin (rD : Nat → Int32) (rS : Nat → Int32) (rA : Nat → Int32) (rB : Nat → Int32) (rF : Nat → Int32) (rT : Nat → Int32) (rW : Nat → Int32) (rO : Nat → Int32) (tA : Nat → Int32) (lc : Nat) (pe : Nat) (i : Nat) (ni : Nat) (j2 : Nat) (fb62_2 : Nat → Int32) (i0_ : Nat → Int32) : Nat → (Nat → Int32)
  | 0 => (i0_)
  | k_ + 1 => L4_X12_canBegins rD rS rA rB rF rT rW rO tA lc pe i ni j2 fb62_2 k_ (L4_X12_canBegin rD rS rA rB rF rT rW rO tA lc pe i ni j2 fb62_2 i0_ k_)
def L3_X12_canBegins  (j3 : Nat) (fb63_3 : Nat → Int32) : (Nat → Int32) := (upd fb63_3 j3 (0 : Int32))
def L3_X12_canBegin  (i0_ : Nat → Int32) : Nat → (Nat → Int32)
  | 0 => (i0_)
  | k_ + 1 => L3_X12_canBegins  k_ (L3_X12_canBegin  i0_ k_)
def L5_X12_canBegins (rD : Nat → Int32) (rS : Nat → Int32) (rA : Nat → Int32) (rB : Nat → Int32) (rF : Nat → Int32) (rT : Nat → Int32) (rW : Nat → Int32) (rO : Nat → Int32) (tA : Nat → Int32) (lc : Nat) (pe : Nat) (i : Nat) (ni : Nat) (j2 : Nat) (fb62_2 : Nat → Int32) (fb63_2 : Nat → Int32) (j5 : Nat) (x4_5 : Int32) (fb62_5 : Nat → Int32) : Int32 × (Nat → Int32) := if x4_5 = 0 then (if (upd fb62_5 j5 (vp_nar .boolean ((L4_X12_canBegin rD rS rA rB rF rT rW rO tA lc pe i ni j2 fb62_2 (L3_X12_canBegin fb63_2 16384) 16384) j5))) j5 = 0 then (((0 : Int32), (upd fb62_5 j5 (vp_nar .boolean ((L4_X12_canBegin rD rS rA rB rF rT rW rO tA lc pe i ni j2 fb62_2 (L3_X12_canBegin fb63_2 16384) 16384) j5))))) else (((1 : Int32), (upd fb62_5 j5 (vp_nar .boolean ((L4_X12_canBegin rD rS rA rB rF rT rW rO tA lc pe i ni j2 fb62_2 (L3_X12_canBegin fb63_2 16384) 16384) j5)))))) else (((1 : Int32), (upd fb62_5 j5 (vp_nar .boolean ((L4_X12_canBegin rD rS rA rB rF rT rW rO tA lc pe i ni j2 fb62_2 (L3_X12_canBegin fb63_2 16384) 16384) j5)))))
def L5_X12_canBegin (rD : Nat → Int32) (rS : Nat → Int32) (rA : Nat → Int32) (rB : Nat → Int32) (rF : Nat → Int32) (rT : Nat → Int32) (rW : Nat → Int32) (rO : Nat → Int32) (tA : Nat → Int32) (lc : Nat) (pe : Nat) (i : Nat) (ni : Nat) (j2 : Nat) (fb62_2 : Nat → Int32) (fb63_2 : Nat → Int32) (i0_ : Int32) (i1_ : Nat → Int32) : Nat → Int32 × (Nat → Int32)
  | 0 => (i0_, i1_)
  | k_ + 1 => L5_X12_canBegins rD rS rA rB rF rT rW rO tA lc pe i ni j2 fb62_2 fb63_2 k_ ((L5_X12_canBegin rD rS rA rB rF rT rW rO tA lc pe i ni j2 fb62_2 fb63_2 i0_ i1_ k_).1) ((L5_X12_canBegin rD rS rA rB rF rT rW rO tA lc pe i ni j2 fb62_2 fb63_2 i0_ i1_ k_).2)
def L2_X12_canBegin (rD : Nat → Int32) (rS : Nat → Int32) (rA : Nat → Int32) (rB : Nat → Int32) (rF : Nat → Int32) (rT : Nat → Int32) (rW : Nat → Int32) (rO : Nat → Int32) (tA : Nat → Int32) (lc : Nat) (pe : Nat) (i : Nat) (ni : Nat) : Nat → Nat → Int32 → (Nat → Int32) → (Nat → Int32) → Int32 × (Nat → Int32) × (Nat → Int32)
  | 0, _, _, _, _ => (0, fun _ => 0, fun _ => 0)
  | m_ + 1, j2, x4_2, fb62_2, fb63_2 => if 24 < nI (j2 + 1) then ((zb x4_2, fb62_2, fb63_2)) else (if x4_2 = 0 then ((zb x4_2, fb62_2, fb63_2)) else (L2_X12_canBegin rD rS rA rB rF rT rW rO tA lc pe i ni m_ (j2 + 1) ((L5_X12_canBegin rD rS rA rB rF rT rW rO tA lc pe i ni j2 fb62_2 fb63_2 (0 : Int32) fb62_2 16384).1) ((L5_X12_canBegin rD rS rA rB rF rT rW rO tA lc pe i ni j2 fb62_2 fb63_2 (0 : Int32) fb62_2 16384).2) (L4_X12_canBegin rD rS rA rB rF rT rW rO tA lc pe i ni j2 fb62_2 (L3_X12_canBegin fb63_2 16384) 16384)))
def L1_X12_canBegins (fi : Nat) (j1 : Nat) (fb62_1 : Nat → Int32) : (Nat → Int32) := if nI j1 = (128 : Int32) <<< ((nI fi) &&& 31) then ((upd fb62_1 j1 (1 : Int32))) else ((upd fb62_1 j1 (0 : Int32)))
def L1_X12_canBegin (fi : Nat) (i0_ : Nat → Int32) : Nat → (Nat → Int32)
  | 0 => (i0_)
  | k_ + 1 => L1_X12_canBegins fi k_ (L1_X12_canBegin fi i0_ k_)
def F_X12_canBegin (rD : Nat → Int32) (rS : Nat → Int32) (rA : Nat → Int32) (rB : Nat → Int32) (rF : Nat → Int32) (rT : Nat → Int32) (rW : Nat → Int32) (rO : Nat → Int32) (tA : Nat → Int32) (cN : Nat → Int32) (dN : Nat → Int32) (lc : Nat) (pe : Nat) (i : Nat) (ni : Nat) (fi : Nat) : Int32 × (Nat → Int32) × (Nat → Int32) := if F_X12_isAsTold tA pe i ni ((1 : Int32) <<< ((nI fi) &&& 31)) 0 = 0 then (((0 : Int32), cN, dN)) else (L2_X12_canBegin rD rS rA rB rF rT rW rO tA lc pe i ni (24 + 1) 0 (1 : Int32) (L1_X12_canBegin fi cN 16384) dN)
set_option maxHeartbeats 4000000 in
set_option maxRecDepth 100000 in
theorem K_X12_canBegin (l : Launch) (g : GG) (h0 : Nat) (vs : List Value) (b6 : Nat) (rP : Nat → Int32) (b7 : Nat) (rL : Nat → Int32) (b8 : Nat) (rD : Nat → Int32) (b11 : Nat) (rS : Nat → Int32) (b12 : Nat) (rA : Nat → Int32) (b13 : Nat) (rB : Nat → Int32) (b14 : Nat) (rF : Nat → Int32) (b15 : Nat) (rT : Nat → Int32) (b16 : Nat) (rW : Nat → Int32) (b17 : Nat) (rO : Nat → Int32) (b61 : Nat) (tA : Nat → Int32) (b62 : Nat) (cN : Nat → Int32) (b63 : Nat) (dN : Nat → Int32) (lc : Nat) (pe : Nat) (i : Nat) (ni : Nat) (fi : Nat) (hlen : vs.length = 64) (h6_ : vs[6]? = some (.ref b6)) (h7_ : vs[7]? = some (.ref b7)) (h8_ : vs[8]? = some (.ref b8)) (h11_ : vs[11]? = some (.ref b11)) (h12_ : vs[12]? = some (.ref b12)) (h13_ : vs[13]? = some (.ref b13)) (h14_ : vs[14]? = some (.ref b14)) (h15_ : vs[15]? = some (.ref b15)) (h16_ : vs[16]? = some (.ref b16)) (h17_ : vs[17]? = some (.ref b17)) (h61_ : vs[61]? = some (.ref b61)) (h62_ : vs[62]? = some (.ref b62)) (h63_ : vs[63]? = some (.ref b63)) (hi : i < 11) (hlc : lc ≤ 12) (hL : rL i = nI lc) (hpe : pe ≤ 7) (hP : rP i = nI pe) (hni : ni < 4) (h19_ : vs[19]? = some (.int (-1))) (h20_ : vs[20]? = some (.int (-1))) (hfi : fi < 7) : MetI l g yX12_canBegin cX12_canBegin 7 (some .boolean) 10 0 0 [.ref h0, .int (nI i), .int (nI ni), .int (nI fi)] [(h0, .inr (12, vs)), (b6, .inl (g.2.1 1, 11, .inl rP)), (b7, .inl (g.2.1 1, 11, .inl rL)), (b8, .inl (g.2.1 1, 11, .inl rD)), (b11, .inl (g.2.1 1, 44, .inl rS)), (b12, .inl (g.2.1 1, 132, .inl rA)), (b13, .inl (g.2.1 1, 132, .inl rB)), (b14, .inl (g.2.1 1, 132, .inl rF)), (b15, .inl (g.2.1 1, 132, .inl rT)), (b16, .inl (g.2.1 1, 132, .inl rW)), (b17, .inl (g.2.1 3, 132, .inl rO)), (b61, .inl (g.2.1 1, 308, .inl tA)), (b62, .inl (g.2.1 3, 16384, .inl cN)), (b63, .inl (g.2.1 3, 16384, .inl dN))] (fun r u => r = (F_X12_canBegin rD rS rA rB rF rT rW rO tA cN dN lc pe i ni fi).1 ∧ u = [(h0, .inr (12, vs)), (b6, .inl (g.2.1 1, 11, .inl rP)), (b7, .inl (g.2.1 1, 11, .inl rL)), (b8, .inl (g.2.1 1, 11, .inl rD)), (b11, .inl (g.2.1 1, 44, .inl rS)), (b12, .inl (g.2.1 1, 132, .inl rA)), (b13, .inl (g.2.1 1, 132, .inl rB)), (b14, .inl (g.2.1 1, 132, .inl rF)), (b15, .inl (g.2.1 1, 132, .inl rT)), (b16, .inl (g.2.1 1, 132, .inl rW)), (b17, .inl (g.2.1 3, 132, .inl rO)), (b61, .inl (g.2.1 1, 308, .inl tA)), (b62, .inl (g.2.1 3, 16384, .inl ((F_X12_canBegin rD rS rA rB rF rT rW rO tA cN dN lc pe i ni fi).2.1))), (b63, .inl (g.2.1 3, 16384, .inl ((F_X12_canBegin rD rS rA rB rF rT rW rO tA cN dN lc pe i ni fi).2.2)))]) := by
  refine MetI.of (own := RX12) rfl (by decide) (Nat.le_of_ble_eq_true rfl) ?_
  intro p e s m below meth c A ls args Q hQ X hr hin hW hl
  have hx := X.1
  have hb := X.2.1
  have hl : lv_has ls 7 [(0, .ref h0), (1, .int (nI i)), (2, .int (nI ni)), (3, .int (nI fi))] := hl
  refine lv_aload_n (pc := 0) hx hb dX12_canBegin_0 rfl (lv_at hl 0 rfl) ?_
  refine lv_iload_n (pc := 1) hx hb dX12_canBegin_1 rfl (lv_at hl 1 rfl) ?_
  refine lv_iload_n (pc := 2) hx hb dX12_canBegin_2 rfl (lv_at hl 2 rfl) ?_
  refine lv_iconst (v := 1) (pc := 3) hx hb dX12_canBegin_3 (by decide) ?_
  refine lv_iload_n (pc := 4) hx hb dX12_canBegin_4 rfl (lv_at hl 3 rfl) ?_
  refine lv_ishl (pc := 5) hx hb dX12_canBegin_5 ?_
  refine lv_iconst (v := 0) (pc := 6) hx hb dX12_canBegin_6 (by decide) ?_
  refine c_Vi (pc := 7) (As := [.int (nI i), .int (nI ni), .int ((1 : Int32) <<< ((nI fi) &&& 31)), .int 0]) (rest := []) (wr := [(b7, .inl (g.2.1 1, 11, .inl rL)), (b8, .inl (g.2.1 1, 11, .inl rD)), (b11, .inl (g.2.1 1, 44, .inl rS)), (b12, .inl (g.2.1 1, 132, .inl rA)), (b13, .inl (g.2.1 1, 132, .inl rB)), (b14, .inl (g.2.1 1, 132, .inl rF)), (b15, .inl (g.2.1 1, 132, .inl rT)), (b16, .inl (g.2.1 1, 132, .inl rW)), (b17, .inl (g.2.1 3, 132, .inl rO)), (b62, .inl (g.2.1 3, 16384, .inl cN)), (b63, .inl (g.2.1 3, 16384, .inl dN))]) X hW 0 ciX12 rfl (K_X12_isAsTold l g h0 vs b6 rP b61 tA pe i ni ((1 : Int32) <<< ((nI fi) &&& 31)) 0 hlen h6_ h61_ hi hpe hP hni) vX12_401 [0, 1, 11] [2, 3, 4, 5, 6, 7, 8, 9, 10, 12, 13] rfl rfl rfl rfl rfl rfl hl.1 rfl (Nat.le_of_ble_eq_true rfl) ⟨Nat.le_of_ble_eq_true rfl, Nat.le_of_ble_eq_true rfl⟩ ⟨Nat.le_of_ble_eq_true rfl, Nat.le_of_ble_eq_true rfl⟩ dX12_canBegin_7 (fun r1 u9 H locs hq hW => ?_)
  obtain ⟨rfl, rfl⟩ := hq
  have hW : WD g A s _ _ [(b7, .inl (g.2.1 1, 11, .inl rL)), (b8, .inl (g.2.1 1, 11, .inl rD)), (b11, .inl (g.2.1 1, 44, .inl rS)), (b12, .inl (g.2.1 1, 132, .inl rA)), (b13, .inl (g.2.1 1, 132, .inl rB)), (b14, .inl (g.2.1 1, 132, .inl rF)), (b15, .inl (g.2.1 1, 132, .inl rT)), (b16, .inl (g.2.1 1, 132, .inl rW)), (b17, .inl (g.2.1 3, 132, .inl rO)), (b62, .inl (g.2.1 3, 16384, .inl cN)), (b63, .inl (g.2.1 3, 16384, .inl dN)), (h0, .inr (12, vs)), (b6, .inl (g.2.1 1, 11, .inl rP)), (b61, .inl (g.2.1 1, 308, .inl tA))] := hW
  refine lv_if_ne (tgt := 15) (pc := 10) hx hb dX12_canBegin_10 rfl (fun c2 => ?_) (fun c2 => ?_)
  · refine lv_iconst (v := 0) (pc := 15) hx hb dX12_canBegin_15 (by decide) ?_
    refine lv_istore (lv' := [(4, .int 0), (0, .ref h0), (1, .int (nI i)), (2, .int (nI ni)), (3, .int (nI fi))]) (pc := 16) hx hb dX12_canBegin_16 hl (by decide) rfl (fun ls hl => ?_)
    have loop1 : ∀ (fu1 : Nat) (j1 : Nat) (fb62_1 : Nat → Int32), (16384 < fu1 + j1) → (j1 ≤ 16384) → (fb62_1 = L1_X12_canBegin fi cN j1) → ∀ (H : Heap) (locs : List Loc) (ls : Array Slot), WD g A s H locs [(b7, .inl (g.2.1 1, 11, .inl rL)), (b8, .inl (g.2.1 1, 11, .inl rD)), (b11, .inl (g.2.1 1, 44, .inl rS)), (b12, .inl (g.2.1 1, 132, .inl rA)), (b13, .inl (g.2.1 1, 132, .inl rB)), (b14, .inl (g.2.1 1, 132, .inl rF)), (b15, .inl (g.2.1 1, 132, .inl rT)), (b16, .inl (g.2.1 1, 132, .inl rW)), (b17, .inl (g.2.1 3, 132, .inl rO)), (b62, .inl (g.2.1 3, 16384, .inl fb62_1)), (b63, .inl (g.2.1 3, 16384, .inl dN)), (h0, .inr (12, vs)), (b6, .inl (g.2.1 1, 11, .inl rP)), (b61, .inl (g.2.1 1, 308, .inl tA))] → lv_has ls 7 [(4, .int (nI j1)), (0, .ref h0), (1, .int (nI i)), (2, .int (nI ni)), (3, .int (nI fi))] → W p l e (RM 10 0 0) s m args below meth c H locs 0 0 Q (F0 m 18 ls []) := by
      intro fu1
      induction fu1 with
      | zero =>
        intro j1 fb62_1 hm1 hj1 hst1
        exact absurd hm1 (by omega)
      | succ fu1 ih1 =>
        intro j1 fb62_1 hm1 hj1 hst1 H locs ls hW hl
        refine lv_iload (pc := 18) hx hb dX12_canBegin_18 (lv_at hl 0 rfl) ?_
        refine lv_sipush (v := 16384) (pc := 20) hx hb dX12_canBegin_20 (by decide) ?_
        refine lv_icmp_ge (tgt := 54) (pc := 23) hx hb dX12_canBegin_23 rfl (fun c4 => ?_) (fun c4 => ?_)
        · have h5 : 16384 ≤ j1 := (nI_leI (a := 16384) (b := j1) (by omega) (by omega)).mp c4
          have hN1 : j1 = 16384 := by omega
          rw [hN1] at hst1
          subst hst1
          have hW : WD g A s _ _ [(b7, .inl (g.2.1 1, 11, .inl rL)), (b8, .inl (g.2.1 1, 11, .inl rD)), (b11, .inl (g.2.1 1, 44, .inl rS)), (b12, .inl (g.2.1 1, 132, .inl rA)), (b13, .inl (g.2.1 1, 132, .inl rB)), (b14, .inl (g.2.1 1, 132, .inl rF)), (b15, .inl (g.2.1 1, 132, .inl rT)), (b16, .inl (g.2.1 1, 132, .inl rW)), (b17, .inl (g.2.1 3, 132, .inl rO)), (b62, .inl (g.2.1 3, 16384, .inl (L1_X12_canBegin fi cN 16384))), (b63, .inl (g.2.1 3, 16384, .inl dN)), (h0, .inr (12, vs)), (b6, .inl (g.2.1 1, 11, .inl rP)), (b61, .inl (g.2.1 1, 308, .inl tA))] := hW
          refine lv_iconst (v := 1) (pc := 54) hx hb dX12_canBegin_54 (by decide) ?_
          refine lv_istore (lv' := [(4, .int 1), (0, .ref h0), (1, .int (nI i)), (2, .int (nI ni)), (3, .int (nI fi))]) (pc := 55) hx hb dX12_canBegin_55 hl (by decide) rfl (fun ls hl => ?_)
          refine lv_iconst (v := 1) (pc := 57) hx hb dX12_canBegin_57 (by decide) ?_
          refine lv_istore (lv' := [(5, .int 1), (4, .int 1), (0, .ref h0), (1, .int (nI i)), (2, .int (nI ni)), (3, .int (nI fi))]) (pc := 58) hx hb dX12_canBegin_58 hl (by decide) rfl (fun ls hl => ?_)
          have loop2 : ∀ (fu2 : Nat) (j2 : Nat) (x4_2 : Int32) (fb62_2 : Nat → Int32) (fb63_2 : Nat → Int32), (24 < fu2 + j2) → (j2 ≤ 24) → (x4_2 = 0 ∨ x4_2 = 1) → (L2_X12_canBegin rD rS rA rB rF rT rW rO tA lc pe i ni fu2 j2 x4_2 fb62_2 fb63_2 = F_X12_canBegin rD rS rA rB rF rT rW rO tA cN dN lc pe i ni fi) → ∀ (H : Heap) (locs : List Loc) (ls : Array Slot), WD g A s H locs [(b7, .inl (g.2.1 1, 11, .inl rL)), (b8, .inl (g.2.1 1, 11, .inl rD)), (b11, .inl (g.2.1 1, 44, .inl rS)), (b12, .inl (g.2.1 1, 132, .inl rA)), (b13, .inl (g.2.1 1, 132, .inl rB)), (b14, .inl (g.2.1 1, 132, .inl rF)), (b15, .inl (g.2.1 1, 132, .inl rT)), (b16, .inl (g.2.1 1, 132, .inl rW)), (b17, .inl (g.2.1 3, 132, .inl rO)), (b62, .inl (g.2.1 3, 16384, .inl fb62_2)), (b63, .inl (g.2.1 3, 16384, .inl fb63_2)), (h0, .inr (12, vs)), (b6, .inl (g.2.1 1, 11, .inl rP)), (b61, .inl (g.2.1 1, 308, .inl tA))] → lv_has ls 7 [(5, .int (nI (j2 + 1))), (4, .int x4_2), (0, .ref h0), (1, .int (nI i)), (2, .int (nI ni)), (3, .int (nI fi))] → W p l e (RM 10 0 0) s m args below meth c H locs 0 0 Q (F0 m 60 ls []) := by
            intro fu2
            induction fu2 with
            | zero =>
              intro j2 x4_2 fb62_2 fb63_2 hm2 hj2 hz2 hst2
              exact absurd hm2 (by omega)
            | succ fu2 ih2 =>
              intro j2 x4_2 fb62_2 fb63_2 hm2 hj2 hz2 hst2 H locs ls hW hl
              refine lv_iload (pc := 60) hx hb dX12_canBegin_60 (lv_at hl 0 rfl) ?_
              refine lv_bipush (v := 24) (pc := 62) hx hb dX12_canBegin_62 (by decide) ?_
              refine lv_icmp_gt (tgt := 209) (pc := 64) hx hb dX12_canBegin_64 rfl (fun c6 => ?_) (fun c6 => ?_)
              · have h7 : 24 < (j2 + 1) := (nI_ltI (a := 24) (b := (j2 + 1)) (by omega) (by omega)).mp c6
                refine lv_iload (pc := 209) hx hb dX12_canBegin_209 (lv_at hl 1 rfl) ?_
                rw [show x4_2 = zb x4_2 from (zb_of hz2).symm]
                have hF : F_X12_canBegin rD rS rA rB rF rT rW rO tA cN dN lc pe i ni fi = (zb x4_2, fb62_2, fb63_2) := hst2.symm.trans (show L2_X12_canBegin rD rS rA rB rF rT rW rO tA lc pe i ni (fu2 + 1) j2 x4_2 fb62_2 fb63_2 = (zb x4_2, fb62_2, fb63_2) from by rw [L2_X12_canBegin, if_pos c6])
                exact e_z (u := [(h0, .inr (12, vs)), (b6, .inl (g.2.1 1, 11, .inl rP)), (b7, .inl (g.2.1 1, 11, .inl rL)), (b8, .inl (g.2.1 1, 11, .inl rD)), (b11, .inl (g.2.1 1, 44, .inl rS)), (b12, .inl (g.2.1 1, 132, .inl rA)), (b13, .inl (g.2.1 1, 132, .inl rB)), (b14, .inl (g.2.1 1, 132, .inl rF)), (b15, .inl (g.2.1 1, 132, .inl rT)), (b16, .inl (g.2.1 1, 132, .inl rW)), (b17, .inl (g.2.1 3, 132, .inl rO)), (b61, .inl (g.2.1 1, 308, .inl tA)), (b62, .inl (g.2.1 3, 16384, .inl fb62_2)), (b63, .inl (g.2.1 3, 16384, .inl fb63_2))]) X hQ hr (hW) (zb_z ..) [11, 12, 0, 1, 2, 3, 4, 5, 6, 7, 8, 13, 9, 10] rfl rfl (⟨(congrArg Prod.fst hF).symm, by rw [hF]⟩) ⟨Nat.le_of_ble_eq_true rfl, Nat.le_of_ble_eq_true rfl⟩ dX12_canBegin_211
              · have h8 : ¬ (24 < (j2 + 1)) := fun q => c6 ((nI_ltI (a := 24) (b := (j2 + 1)) (by omega) (by omega)).mpr q)
                refine lv_iload (pc := 67) hx hb dX12_canBegin_67 (lv_at hl 1 rfl) ?_
                refine lv_if_eq (tgt := 209) (pc := 69) hx hb dX12_canBegin_69 rfl (fun c9 => ?_) (fun c9 => ?_)
                · refine lv_iload (pc := 209) hx hb dX12_canBegin_209 (lv_at hl 1 rfl) ?_
                  rw [show x4_2 = zb x4_2 from (zb_of hz2).symm]
                  have hF : F_X12_canBegin rD rS rA rB rF rT rW rO tA cN dN lc pe i ni fi = (zb x4_2, fb62_2, fb63_2) := hst2.symm.trans (show L2_X12_canBegin rD rS rA rB rF rT rW rO tA lc pe i ni (fu2 + 1) j2 x4_2 fb62_2 fb63_2 = (zb x4_2, fb62_2, fb63_2) from by rw [L2_X12_canBegin, if_neg c6, if_pos c9])
                  exact e_z (u := [(h0, .inr (12, vs)), (b6, .inl (g.2.1 1, 11, .inl rP)), (b7, .inl (g.2.1 1, 11, .inl rL)), (b8, .inl (g.2.1 1, 11, .inl rD)), (b11, .inl (g.2.1 1, 44, .inl rS)), (b12, .inl (g.2.1 1, 132, .inl rA)), (b13, .inl (g.2.1 1, 132, .inl rB)), (b14, .inl (g.2.1 1, 132, .inl rF)), (b15, .inl (g.2.1 1, 132, .inl rT)), (b16, .inl (g.2.1 1, 132, .inl rW)), (b17, .inl (g.2.1 3, 132, .inl rO)), (b61, .inl (g.2.1 1, 308, .inl tA)), (b62, .inl (g.2.1 3, 16384, .inl fb62_2)), (b63, .inl (g.2.1 3, 16384, .inl fb63_2))]) X hQ hr (hW) (zb_z ..) [11, 12, 0, 1, 2, 3, 4, 5, 6, 7, 8, 13, 9, 10] rfl rfl (⟨(congrArg Prod.fst hF).symm, by rw [hF]⟩) ⟨Nat.le_of_ble_eq_true rfl, Nat.le_of_ble_eq_true rfl⟩ dX12_canBegin_211
                · refine lv_iconst (v := 0) (pc := 72) hx hb dX12_canBegin_72 (by decide) ?_
                  refine lv_istore (lv' := [(4, .int 0), (5, .int (nI (j2 + 1))), (0, .ref h0), (1, .int (nI i)), (2, .int (nI ni)), (3, .int (nI fi))]) (pc := 73) hx hb dX12_canBegin_73 hl (by decide) rfl (fun ls hl => ?_)
                  refine lv_iconst (v := 0) (pc := 75) hx hb dX12_canBegin_75 (by decide) ?_
                  refine lv_istore (lv' := [(6, .int 0), (4, .int 0), (5, .int (nI (j2 + 1))), (0, .ref h0), (1, .int (nI i)), (2, .int (nI ni)), (3, .int (nI fi))]) (pc := 76) hx hb dX12_canBegin_76 hl (by decide) rfl (fun ls hl => ?_)
                  have loop3 : ∀ (fu3 : Nat) (j3 : Nat) (fb63_3 : Nat → Int32), (16384 < fu3 + j3) → (j3 ≤ 16384) → (fb63_3 = L3_X12_canBegin fb63_2 j3) → ∀ (H : Heap) (locs : List Loc) (ls : Array Slot), WD g A s H locs [(b7, .inl (g.2.1 1, 11, .inl rL)), (b8, .inl (g.2.1 1, 11, .inl rD)), (b11, .inl (g.2.1 1, 44, .inl rS)), (b12, .inl (g.2.1 1, 132, .inl rA)), (b13, .inl (g.2.1 1, 132, .inl rB)), (b14, .inl (g.2.1 1, 132, .inl rF)), (b15, .inl (g.2.1 1, 132, .inl rT)), (b16, .inl (g.2.1 1, 132, .inl rW)), (b17, .inl (g.2.1 3, 132, .inl rO)), (b62, .inl (g.2.1 3, 16384, .inl fb62_2)), (b63, .inl (g.2.1 3, 16384, .inl fb63_3)), (h0, .inr (12, vs)), (b6, .inl (g.2.1 1, 11, .inl rP)), (b61, .inl (g.2.1 1, 308, .inl tA))] → lv_has ls 7 [(6, .int (nI j3)), (4, .int 0), (5, .int (nI (j2 + 1))), (0, .ref h0), (1, .int (nI i)), (2, .int (nI ni)), (3, .int (nI fi))] → W p l e (RM 10 0 0) s m args below meth c H locs 0 0 Q (F0 m 78 ls []) := by
                    intro fu3
                    induction fu3 with
                    | zero =>
                      intro j3 fb63_3 hm3 hj3 hst3
                      exact absurd hm3 (by omega)
                    | succ fu3 ih3 =>
                      intro j3 fb63_3 hm3 hj3 hst3 H locs ls hW hl
                      refine lv_iload (pc := 78) hx hb dX12_canBegin_78 (lv_at hl 0 rfl) ?_
                      refine lv_sipush (v := 16384) (pc := 80) hx hb dX12_canBegin_80 (by decide) ?_
                      refine lv_icmp_ge (tgt := 100) (pc := 83) hx hb dX12_canBegin_83 rfl (fun c12 => ?_) (fun c12 => ?_)
                      · have h13 : 16384 ≤ j3 := (nI_leI (a := 16384) (b := j3) (by omega) (by omega)).mp c12
                        have hN3 : j3 = 16384 := by omega
                        rw [hN3] at hst3
                        subst hst3
                        have hW : WD g A s _ _ [(b7, .inl (g.2.1 1, 11, .inl rL)), (b8, .inl (g.2.1 1, 11, .inl rD)), (b11, .inl (g.2.1 1, 44, .inl rS)), (b12, .inl (g.2.1 1, 132, .inl rA)), (b13, .inl (g.2.1 1, 132, .inl rB)), (b14, .inl (g.2.1 1, 132, .inl rF)), (b15, .inl (g.2.1 1, 132, .inl rT)), (b16, .inl (g.2.1 1, 132, .inl rW)), (b17, .inl (g.2.1 3, 132, .inl rO)), (b62, .inl (g.2.1 3, 16384, .inl fb62_2)), (b63, .inl (g.2.1 3, 16384, .inl (L3_X12_canBegin fb63_2 16384))), (h0, .inr (12, vs)), (b6, .inl (g.2.1 1, 11, .inl rP)), (b61, .inl (g.2.1 1, 308, .inl tA))] := hW
                        refine lv_iconst (v := 0) (pc := 100) hx hb dX12_canBegin_100 (by decide) ?_
                        refine lv_istore (lv' := [(6, .int 0), (4, .int 0), (5, .int (nI (j2 + 1))), (0, .ref h0), (1, .int (nI i)), (2, .int (nI ni)), (3, .int (nI fi))]) (pc := 101) hx hb dX12_canBegin_101 hl (by decide) rfl (fun ls hl => ?_)
                        have loop4 : ∀ (fu4 : Nat) (j4 : Nat) (fb63_4 : Nat → Int32), (16384 < fu4 + j4) → (j4 ≤ 16384) → (fb63_4 = L4_X12_canBegin rD rS rA rB rF rT rW rO tA lc pe i ni j2 fb62_2 (L3_X12_canBegin fb63_2 16384) j4) → ∀ (H : Heap) (locs : List Loc) (ls : Array Slot), WD g A s H locs [(b7, .inl (g.2.1 1, 11, .inl rL)), (b8, .inl (g.2.1 1, 11, .inl rD)), (b11, .inl (g.2.1 1, 44, .inl rS)), (b12, .inl (g.2.1 1, 132, .inl rA)), (b13, .inl (g.2.1 1, 132, .inl rB)), (b14, .inl (g.2.1 1, 132, .inl rF)), (b15, .inl (g.2.1 1, 132, .inl rT)), (b16, .inl (g.2.1 1, 132, .inl rW)), (b17, .inl (g.2.1 3, 132, .inl rO)), (b62, .inl (g.2.1 3, 16384, .inl fb62_2)), (b63, .inl (g.2.1 3, 16384, .inl fb63_4)), (h0, .inr (12, vs)), (b6, .inl (g.2.1 1, 11, .inl rP)), (b61, .inl (g.2.1 1, 308, .inl tA))] → lv_has ls 7 [(6, .int (nI j4)), (4, .int 0), (5, .int (nI (j2 + 1))), (0, .ref h0), (1, .int (nI i)), (2, .int (nI ni)), (3, .int (nI fi))] → W p l e (RM 10 0 0) s m args below meth c H locs 0 0 Q (F0 m 103 ls []) := by
                          intro fu4
                          induction fu4 with
                          | zero =>
                            intro j4 fb63_4 hm4 hj4 hst4
                            exact absurd hm4 (by omega)
                          | succ fu4 ih4 =>
                            intro j4 fb63_4 hm4 hj4 hst4 H locs ls hW hl
                            refine lv_iload (pc := 103) hx hb dX12_canBegin_103 (lv_at hl 0 rfl) ?_
                            refine lv_sipush (v := 16384) (pc := 105) hx hb dX12_canBegin_105 (by decide) ?_
                            refine lv_icmp_ge (tgt := 150) (pc := 108) hx hb dX12_canBegin_108 rfl (fun c14 => ?_) (fun c14 => ?_)
                            · have h15 : 16384 ≤ j4 := (nI_leI (a := 16384) (b := j4) (by omega) (by omega)).mp c14
                              have hN4 : j4 = 16384 := by omega
                              rw [hN4] at hst4
                              subst hst4
                              have hW : WD g A s _ _ [(b7, .inl (g.2.1 1, 11, .inl rL)), (b8, .inl (g.2.1 1, 11, .inl rD)), (b11, .inl (g.2.1 1, 44, .inl rS)), (b12, .inl (g.2.1 1, 132, .inl rA)), (b13, .inl (g.2.1 1, 132, .inl rB)), (b14, .inl (g.2.1 1, 132, .inl rF)), (b15, .inl (g.2.1 1, 132, .inl rT)), (b16, .inl (g.2.1 1, 132, .inl rW)), (b17, .inl (g.2.1 3, 132, .inl rO)), (b62, .inl (g.2.1 3, 16384, .inl fb62_2)), (b63, .inl (g.2.1 3, 16384, .inl (L4_X12_canBegin rD rS rA rB rF rT rW rO tA lc pe i ni j2 fb62_2 (L3_X12_canBegin fb63_2 16384) 16384))), (h0, .inr (12, vs)), (b6, .inl (g.2.1 1, 11, .inl rP)), (b61, .inl (g.2.1 1, 308, .inl tA))] := hW
                              refine lv_iconst (v := 0) (pc := 150) hx hb dX12_canBegin_150 (by decide) ?_
                              refine lv_istore (lv' := [(6, .int 0), (4, .int 0), (5, .int (nI (j2 + 1))), (0, .ref h0), (1, .int (nI i)), (2, .int (nI ni)), (3, .int (nI fi))]) (pc := 151) hx hb dX12_canBegin_151 hl (by decide) rfl (fun ls hl => ?_)
                              have loop5 : ∀ (fu5 : Nat) (j5 : Nat) (x4_5 : Int32) (fb62_5 : Nat → Int32), (16384 < fu5 + j5) → (j5 ≤ 16384) → (x4_5 = 0 ∨ x4_5 = 1) → ((x4_5, fb62_5) = L5_X12_canBegin rD rS rA rB rF rT rW rO tA lc pe i ni j2 fb62_2 fb63_2 (0 : Int32) fb62_2 j5) → ∀ (H : Heap) (locs : List Loc) (ls : Array Slot), WD g A s H locs [(b7, .inl (g.2.1 1, 11, .inl rL)), (b8, .inl (g.2.1 1, 11, .inl rD)), (b11, .inl (g.2.1 1, 44, .inl rS)), (b12, .inl (g.2.1 1, 132, .inl rA)), (b13, .inl (g.2.1 1, 132, .inl rB)), (b14, .inl (g.2.1 1, 132, .inl rF)), (b15, .inl (g.2.1 1, 132, .inl rT)), (b16, .inl (g.2.1 1, 132, .inl rW)), (b17, .inl (g.2.1 3, 132, .inl rO)), (b62, .inl (g.2.1 3, 16384, .inl fb62_5)), (b63, .inl (g.2.1 3, 16384, .inl (L4_X12_canBegin rD rS rA rB rF rT rW rO tA lc pe i ni j2 fb62_2 (L3_X12_canBegin fb63_2 16384) 16384))), (h0, .inr (12, vs)), (b6, .inl (g.2.1 1, 11, .inl rP)), (b61, .inl (g.2.1 1, 308, .inl tA))] → lv_has ls 7 [(6, .int (nI j5)), (4, .int x4_5), (5, .int (nI (j2 + 1))), (0, .ref h0), (1, .int (nI i)), (2, .int (nI ni)), (3, .int (nI fi))] → W p l e (RM 10 0 0) s m args below meth c H locs 0 0 Q (F0 m 153 ls []) := by
                                intro fu5
                                induction fu5 with
                                | zero =>
                                  intro j5 x4_5 fb62_5 hm5 hj5 hz5 hst5
                                  exact absurd hm5 (by omega)
                                | succ fu5 ih5 =>
                                  intro j5 x4_5 fb62_5 hm5 hj5 hz5 hst5 H locs ls hW hl
                                  refine lv_iload (pc := 153) hx hb dX12_canBegin_153 (lv_at hl 0 rfl) ?_
                                  refine lv_sipush (v := 16384) (pc := 155) hx hb dX12_canBegin_155 (by decide) ?_
                                  refine lv_icmp_ge (tgt := 203) (pc := 158) hx hb dX12_canBegin_158 rfl (fun c16 => ?_) (fun c16 => ?_)
                                  · have h17 : 16384 ≤ j5 := (nI_leI (a := 16384) (b := j5) (by omega) (by omega)).mp c16
                                    have hN5 : j5 = 16384 := by omega
                                    rw [hN5] at hst5
                                    have hs5_0 : (L5_X12_canBegin rD rS rA rB rF rT rW rO tA lc pe i ni j2 fb62_2 fb63_2 (0 : Int32) fb62_2 16384).1 = x4_5 := (congrArg (fun z => z.1) hst5).symm
                                    have hs5_1 : (L5_X12_canBegin rD rS rA rB rF rT rW rO tA lc pe i ni j2 fb62_2 fb63_2 (0 : Int32) fb62_2 16384).2 = fb62_5 := (congrArg (fun z => z.2) hst5).symm
                                    clear hst5
                                    subst hs5_0
                                    subst hs5_1
                                    have hW : WD g A s _ _ [(b7, .inl (g.2.1 1, 11, .inl rL)), (b8, .inl (g.2.1 1, 11, .inl rD)), (b11, .inl (g.2.1 1, 44, .inl rS)), (b12, .inl (g.2.1 1, 132, .inl rA)), (b13, .inl (g.2.1 1, 132, .inl rB)), (b14, .inl (g.2.1 1, 132, .inl rF)), (b15, .inl (g.2.1 1, 132, .inl rT)), (b16, .inl (g.2.1 1, 132, .inl rW)), (b17, .inl (g.2.1 3, 132, .inl rO)), (b62, .inl (g.2.1 3, 16384, .inl ((L5_X12_canBegin rD rS rA rB rF rT rW rO tA lc pe i ni j2 fb62_2 fb63_2 (0 : Int32) fb62_2 16384).2))), (b63, .inl (g.2.1 3, 16384, .inl (L4_X12_canBegin rD rS rA rB rF rT rW rO tA lc pe i ni j2 fb62_2 (L3_X12_canBegin fb63_2 16384) 16384))), (h0, .inr (12, vs)), (b6, .inl (g.2.1 1, 11, .inl rP)), (b61, .inl (g.2.1 1, 308, .inl tA))] := hW
                                    refine lv_iinc (v := nI (j2 + 1 + 1)) (lv' := [(5, .int (nI (j2 + 1 + 1))), (6, .int (nI j5)), (4, .int ((L5_X12_canBegin rD rS rA rB rF rT rW rO tA lc pe i ni j2 fb62_2 fb63_2 (0 : Int32) fb62_2 16384).1)), (0, .ref h0), (1, .int (nI i)), (2, .int (nI ni)), (3, .int (nI fi))]) (pc := 203) hx hb dX12_canBegin_203 hl (k := 2) rfl (nI_add (j2 + 1) 1) (by decide) rfl (fun ls hl => ?_)
                                    refine lv_goto (tgt := 60) (pc := 206) hx hb dX12_canBegin_206 rfl ?_
                                    exact ih2 (j2 + 1) ((L5_X12_canBegin rD rS rA rB rF rT rW rO tA lc pe i ni j2 fb62_2 fb63_2 (0 : Int32) fb62_2 16384).1) ((L5_X12_canBegin rD rS rA rB rF rT rW rO tA lc pe i ni j2 fb62_2 fb63_2 (0 : Int32) fb62_2 16384).2) (L4_X12_canBegin rD rS rA rB rF rT rW rO tA lc pe i ni j2 fb62_2 (L3_X12_canBegin fb63_2 16384) 16384) (by omega) (by omega) hz5 ((show L2_X12_canBegin rD rS rA rB rF rT rW rO tA lc pe i ni (fu2 + 1) j2 x4_2 fb62_2 fb63_2 = L2_X12_canBegin rD rS rA rB rF rT rW rO tA lc pe i ni fu2 (j2 + 1) ((L5_X12_canBegin rD rS rA rB rF rT rW rO tA lc pe i ni j2 fb62_2 fb63_2 (0 : Int32) fb62_2 16384).1) ((L5_X12_canBegin rD rS rA rB rF rT rW rO tA lc pe i ni j2 fb62_2 fb63_2 (0 : Int32) fb62_2 16384).2) (L4_X12_canBegin rD rS rA rB rF rT rW rO tA lc pe i ni j2 fb62_2 (L3_X12_canBegin fb63_2 16384) 16384) from by rw [L2_X12_canBegin, if_neg c6, if_neg c9]).symm.trans hst2) _ _ _ hW (lv_sub hl [0, 2, 3, 4, 5, 6] rfl)
                                  · have h18 : ¬ (16384 ≤ j5) := fun q => c16 ((nI_leI (a := 16384) (b := j5) (by omega) (by omega)).mpr q)
                                    refine lv_aload_n (pc := 161) hx hb dX12_canBegin_161 rfl (lv_at hl 3 rfl) ?_
                                    refine r_get X hW 11 ciX12 62 rfl (by decide) m_1289 rfl h62_ dX12_canBegin_162 ?_
                                    refine lv_iload (pc := 165) hx hb dX12_canBegin_165 (lv_at hl 0 rfl) ?_
                                    refine lv_aload_n (pc := 167) hx hb dX12_canBegin_167 rfl (lv_at hl 3 rfl) ?_
                                    refine r_get X hW 11 ciX12 63 rfl (by decide) m_1290 rfl h63_ dX12_canBegin_168 ?_
                                    refine lv_iload (pc := 171) hx hb dX12_canBegin_171 (lv_at hl 0 rfl) ?_
                                    refine r_zald X hW 10 rfl (vp_in_nI (by omega) (by decide)) dX12_canBegin_173 ?_
                                    refine lv_topi (fun v19 ev19 => ?_)
                                    obtain rfl : v19 = (L4_X12_canBegin rD rS rA rB rF rT rW rO tA lc pe i ni j2 fb62_2 (L3_X12_canBegin fb63_2 16384) 16384) j5 := ev19.trans (by rw [nI_clamp (by omega)])
                                    refine r_zast (ws' := [(b7, .inl (g.2.1 1, 11, .inl rL)), (b8, .inl (g.2.1 1, 11, .inl rD)), (b11, .inl (g.2.1 1, 44, .inl rS)), (b12, .inl (g.2.1 1, 132, .inl rA)), (b13, .inl (g.2.1 1, 132, .inl rB)), (b14, .inl (g.2.1 1, 132, .inl rF)), (b15, .inl (g.2.1 1, 132, .inl rT)), (b16, .inl (g.2.1 1, 132, .inl rW)), (b17, .inl (g.2.1 3, 132, .inl rO)), (b62, .inl (g.2.1 3, 16384, .inl (upd fb62_5 j5 (vp_nar .boolean ((L4_X12_canBegin rD rS rA rB rF rT rW rO tA lc pe i ni j2 fb62_2 (L3_X12_canBegin fb63_2 16384) 16384) j5))))), (b63, .inl (g.2.1 3, 16384, .inl (L4_X12_canBegin rD rS rA rB rF rT rW rO tA lc pe i ni j2 fb62_2 (L3_X12_canBegin fb63_2 16384) 16384))), (h0, .inr (12, vs)), (b6, .inl (g.2.1 1, 11, .inl rP)), (b61, .inl (g.2.1 1, 308, .inl tA))]) X hW 9 rfl (vp_in_nI (by omega) (by decide)) (f' := (upd fb62_5 j5 (vp_nar .boolean ((L4_X12_canBegin rD rS rA rB rF rT rW rO tA lc pe i ni j2 fb62_2 (L3_X12_canBegin fb63_2 16384) 16384) j5)))) (by rw [nI_clamp (by omega)]) rfl dX12_canBegin_174 (fun H locs hW => ?_)
                                    refine lv_iload (pc := 175) hx hb dX12_canBegin_175 (lv_at hl 1 rfl) ?_
                                    refine lv_if_ne (tgt := 190) (pc := 177) hx hb dX12_canBegin_177 rfl (fun c20 => ?_) (fun c20 => ?_)
                                    · refine lv_iconst (v := 1) (pc := 190) hx hb dX12_canBegin_190 (by decide) ?_
                                      refine lv_goto (tgt := 195) (pc := 191) hx hb dX12_canBegin_191 rfl ?_
                                      refine lv_istore (lv' := [(4, .int 1), (6, .int (nI j5)), (5, .int (nI (j2 + 1))), (0, .ref h0), (1, .int (nI i)), (2, .int (nI ni)), (3, .int (nI fi))]) (pc := 195) hx hb dX12_canBegin_195 hl (by decide) rfl (fun ls hl => ?_)
                                      refine lv_iinc (v := nI (j5 + 1)) (lv' := [(6, .int (nI (j5 + 1))), (4, .int 1), (5, .int (nI (j2 + 1))), (0, .ref h0), (1, .int (nI i)), (2, .int (nI ni)), (3, .int (nI fi))]) (pc := 197) hx hb dX12_canBegin_197 hl (k := 1) rfl (nI_add j5 1) (by decide) rfl (fun ls hl => ?_)
                                      refine lv_goto (tgt := 153) (pc := 200) hx hb dX12_canBegin_200 rfl ?_
                                      exact ih5 (j5 + 1) (1 : Int32) (upd fb62_5 j5 (vp_nar .boolean ((L4_X12_canBegin rD rS rA rB rF rT rW rO tA lc pe i ni j2 fb62_2 (L3_X12_canBegin fb63_2 16384) 16384) j5))) (by omega) (by omega) (by first | exact hz5 | exact Or.inl rfl | exact Or.inr rfl) (by rw [L5_X12_canBegin, ← hst5]; exact (show L5_X12_canBegins rD rS rA rB rF rT rW rO tA lc pe i ni j2 fb62_2 fb63_2 j5 x4_5 fb62_5 = ((1 : Int32), (upd fb62_5 j5 (vp_nar .boolean ((L4_X12_canBegin rD rS rA rB rF rT rW rO tA lc pe i ni j2 fb62_2 (L3_X12_canBegin fb63_2 16384) 16384) j5)))) from by rw [L5_X12_canBegins, if_neg c20]).symm) _ _ _ hW (lv_sub hl [0, 1, 2, 3, 4, 5, 6] rfl)
                                    · refine lv_aload_n (pc := 180) hx hb dX12_canBegin_180 rfl (lv_at hl 3 rfl) ?_
                                      refine r_get X hW 11 ciX12 62 rfl (by decide) m_1289 rfl h62_ dX12_canBegin_181 ?_
                                      refine lv_iload (pc := 184) hx hb dX12_canBegin_184 (lv_at hl 0 rfl) ?_
                                      refine r_zald X hW 9 rfl (vp_in_nI (by omega) (by decide)) dX12_canBegin_186 ?_
                                      refine lv_topi (fun v23 ev23 => ?_)
                                      obtain rfl : v23 = (upd fb62_5 j5 (vp_nar .boolean ((L4_X12_canBegin rD rS rA rB rF rT rW rO tA lc pe i ni j2 fb62_2 (L3_X12_canBegin fb63_2 16384) 16384) j5))) j5 := ev23.trans (by rw [nI_clamp (by omega)])
                                      refine lv_if_eq (tgt := 194) (pc := 187) hx hb dX12_canBegin_187 rfl (fun c24 => ?_) (fun c24 => ?_)
                                      · refine lv_iconst (v := 0) (pc := 194) hx hb dX12_canBegin_194 (by decide) ?_
                                        refine lv_istore (lv' := [(4, .int 0), (6, .int (nI j5)), (5, .int (nI (j2 + 1))), (0, .ref h0), (1, .int (nI i)), (2, .int (nI ni)), (3, .int (nI fi))]) (pc := 195) hx hb dX12_canBegin_195 hl (by decide) rfl (fun ls hl => ?_)
                                        refine lv_iinc (v := nI (j5 + 1)) (lv' := [(6, .int (nI (j5 + 1))), (4, .int 0), (5, .int (nI (j2 + 1))), (0, .ref h0), (1, .int (nI i)), (2, .int (nI ni)), (3, .int (nI fi))]) (pc := 197) hx hb dX12_canBegin_197 hl (k := 1) rfl (nI_add j5 1) (by decide) rfl (fun ls hl => ?_)
                                        refine lv_goto (tgt := 153) (pc := 200) hx hb dX12_canBegin_200 rfl ?_
                                        exact ih5 (j5 + 1) (0 : Int32) (upd fb62_5 j5 (vp_nar .boolean ((L4_X12_canBegin rD rS rA rB rF rT rW rO tA lc pe i ni j2 fb62_2 (L3_X12_canBegin fb63_2 16384) 16384) j5))) (by omega) (by omega) (by first | exact hz5 | exact Or.inl rfl | exact Or.inr rfl) (by rw [L5_X12_canBegin, ← hst5]; exact (show L5_X12_canBegins rD rS rA rB rF rT rW rO tA lc pe i ni j2 fb62_2 fb63_2 j5 x4_5 fb62_5 = ((0 : Int32), (upd fb62_5 j5 (vp_nar .boolean ((L4_X12_canBegin rD rS rA rB rF rT rW rO tA lc pe i ni j2 fb62_2 (L3_X12_canBegin fb63_2 16384) 16384) j5)))) from by rw [L5_X12_canBegins, if_pos c20, if_pos c24]).symm) _ _ _ hW (lv_sub hl [0, 1, 2, 3, 4, 5, 6] rfl)
                                      · refine lv_iconst (v := 1) (pc := 190) hx hb dX12_canBegin_190 (by decide) ?_
                                        refine lv_goto (tgt := 195) (pc := 191) hx hb dX12_canBegin_191 rfl ?_
                                        refine lv_istore (lv' := [(4, .int 1), (6, .int (nI j5)), (5, .int (nI (j2 + 1))), (0, .ref h0), (1, .int (nI i)), (2, .int (nI ni)), (3, .int (nI fi))]) (pc := 195) hx hb dX12_canBegin_195 hl (by decide) rfl (fun ls hl => ?_)
                                        refine lv_iinc (v := nI (j5 + 1)) (lv' := [(6, .int (nI (j5 + 1))), (4, .int 1), (5, .int (nI (j2 + 1))), (0, .ref h0), (1, .int (nI i)), (2, .int (nI ni)), (3, .int (nI fi))]) (pc := 197) hx hb dX12_canBegin_197 hl (k := 1) rfl (nI_add j5 1) (by decide) rfl (fun ls hl => ?_)
                                        refine lv_goto (tgt := 153) (pc := 200) hx hb dX12_canBegin_200 rfl ?_
                                        exact ih5 (j5 + 1) (1 : Int32) (upd fb62_5 j5 (vp_nar .boolean ((L4_X12_canBegin rD rS rA rB rF rT rW rO tA lc pe i ni j2 fb62_2 (L3_X12_canBegin fb63_2 16384) 16384) j5))) (by omega) (by omega) (by first | exact hz5 | exact Or.inl rfl | exact Or.inr rfl) (by rw [L5_X12_canBegin, ← hst5]; exact (show L5_X12_canBegins rD rS rA rB rF rT rW rO tA lc pe i ni j2 fb62_2 fb63_2 j5 x4_5 fb62_5 = ((1 : Int32), (upd fb62_5 j5 (vp_nar .boolean ((L4_X12_canBegin rD rS rA rB rF rT rW rO tA lc pe i ni j2 fb62_2 (L3_X12_canBegin fb63_2 16384) 16384) j5)))) from by rw [L5_X12_canBegins, if_pos c20, if_neg c24]).symm) _ _ _ hW (lv_sub hl [0, 1, 2, 3, 4, 5, 6] rfl)
                              exact loop5 (16384 + 1) 0 (0 : Int32) fb62_2 (by omega) (by omega) (Or.inl rfl) rfl _ _ _ hW (lv_sub hl [0, 1, 2, 3, 4, 5, 6] rfl)
                            · have h27 : ¬ (16384 ≤ j4) := fun q => c14 ((nI_leI (a := 16384) (b := j4) (by omega) (by omega)).mpr q)
                              refine lv_aload_n (pc := 111) hx hb dX12_canBegin_111 rfl (lv_at hl 3 rfl) ?_
                              refine r_get X hW 11 ciX12 62 rfl (by decide) m_1289 rfl h62_ dX12_canBegin_112 ?_
                              refine lv_iload (pc := 115) hx hb dX12_canBegin_115 (lv_at hl 0 rfl) ?_
                              refine r_zald X hW 9 rfl (vp_in_nI (by omega) (by decide)) dX12_canBegin_117 ?_
                              refine lv_topi (fun v28 ev28 => ?_)
                              obtain rfl : v28 = fb62_2 j4 := ev28.trans (by rw [nI_clamp (by omega)])
                              refine lv_if_eq (tgt := 144) (pc := 118) hx hb dX12_canBegin_118 rfl (fun c29 => ?_) (fun c29 => ?_)
                              · refine lv_iinc (v := nI (j4 + 1)) (lv' := [(6, .int (nI (j4 + 1))), (4, .int 0), (5, .int (nI (j2 + 1))), (0, .ref h0), (1, .int (nI i)), (2, .int (nI ni)), (3, .int (nI fi))]) (pc := 144) hx hb dX12_canBegin_144 hl (k := 0) rfl (nI_add j4 1) (by decide) rfl (fun ls hl => ?_)
                                refine lv_goto (tgt := 103) (pc := 147) hx hb dX12_canBegin_147 rfl ?_
                                exact ih4 (j4 + 1) fb63_4 (by omega) (by omega) (by rw [L4_X12_canBegin, ← hst4]; exact (show L4_X12_canBegins rD rS rA rB rF rT rW rO tA lc pe i ni j2 fb62_2 j4 fb63_4 = fb63_4 from by rw [L4_X12_canBegins, if_pos c29]).symm) _ _ _ hW (lv_sub hl [0, 1, 2, 3, 4, 5, 6] rfl)
                              · refine lv_aload_n (pc := 121) hx hb dX12_canBegin_121 rfl (lv_at hl 3 rfl) ?_
                                refine lv_iload_n (pc := 122) hx hb dX12_canBegin_122 rfl (lv_at hl 4 rfl) ?_
                                refine lv_iload_n (pc := 123) hx hb dX12_canBegin_123 rfl (lv_at hl 5 rfl) ?_
                                refine lv_iload (pc := 124) hx hb dX12_canBegin_124 (lv_at hl 2 rfl) ?_
                                refine lv_iload (pc := 126) hx hb dX12_canBegin_126 (lv_at hl 0 rfl) ?_
                                refine lv_sipush (v := 128) (pc := 128) hx hb dX12_canBegin_128 (by decide) ?_
                                refine lv_idiv (pc := 131) hx hb dX12_canBegin_131 (by decide) ?_
                                refine lv_topi (fun v32 ev32 => ?_)
                                obtain rfl : v32 = nI (j4 / 128) := ev32.trans (pk_div (by omega) (by decide) (by decide))
                                refine lv_iload (pc := 132) hx hb dX12_canBegin_132 (lv_at hl 0 rfl) ?_
                                refine lv_sipush (v := 128) (pc := 134) hx hb dX12_canBegin_134 (by decide) ?_
                                refine lv_irem (pc := 137) hx hb dX12_canBegin_137 (by decide) ?_
                                refine lv_topi (fun v33 ev33 => ?_)
                                obtain rfl : v33 = nI (j4 % 128) := ev33.trans (pk_rem (by omega) (by decide) (by decide))
                                refine lv_iconst (v := 0) (pc := 138) hx hb dX12_canBegin_138 (by decide) ?_
                                refine lv_iconst (v := 0) (pc := 139) hx hb dX12_canBegin_139 (by decide) ?_
                                refine lv_iconst (v := 0) (pc := 140) hx hb dX12_canBegin_140 (by decide) ?_
                                refine c_Vv (pc := 141) (As := [.int (nI i), .int (nI ni), .int (nI (j2 + 1)), .int (nI (j4 / 128)), .int (nI (j4 % 128)), .int 0, .int 0, .int 0]) (rest := []) (wr := [(b62, .inl (g.2.1 3, 16384, .inl fb62_2))]) X hW 11 ciX12 rfl (MetV.up (d' := 9) (K_gr l g h0 vs b6 rP b7 rL b8 rD b11 rS b12 rA b13 rB b14 rF b15 rT b16 rW b17 rO b61 tA b63 lc pe i ni (j2 + 1) (nI (j4 / 128)) (nI (j4 % 128)) hlen h6_ h7_ h8_ h11_ h12_ h13_ h14_ h15_ h16_ h17_ h61_ h63_ (by omega) hlc hL hpe hP hni h19_ h20_ (by omega) (s7_nI (by omega)) (s7_nI (by omega)) pe 0 (by omega) fb63_4 0 0 s7_0) (by omega)) vX12_404 [11, 12, 0, 1, 2, 3, 4, 5, 6, 7, 8, 13, 10] [9] rfl rfl rfl rfl rfl rfl hl.1 rfl (Nat.le_of_ble_eq_true rfl) ⟨Nat.le_of_ble_eq_true rfl, Nat.le_of_ble_eq_true rfl⟩ ⟨Nat.le_of_ble_eq_true rfl, Nat.le_of_ble_eq_true rfl⟩ dX12_canBegin_141 (fun u9 H locs hq hW => ?_)
                                obtain rfl := hq
                                have hW : WD g A s _ _ [(b62, .inl (g.2.1 3, 16384, .inl fb62_2)), (h0, .inr (12, vs)), (b6, .inl (g.2.1 1, 11, .inl rP)), (b7, .inl (g.2.1 1, 11, .inl rL)), (b8, .inl (g.2.1 1, 11, .inl rD)), (b11, .inl (g.2.1 1, 44, .inl rS)), (b12, .inl (g.2.1 1, 132, .inl rA)), (b13, .inl (g.2.1 1, 132, .inl rB)), (b14, .inl (g.2.1 1, 132, .inl rF)), (b15, .inl (g.2.1 1, 132, .inl rT)), (b16, .inl (g.2.1 1, 132, .inl rW)), (b17, .inl (g.2.1 3, 132, .inl rO)), (b61, .inl (g.2.1 1, 308, .inl tA)), (b63, .inl (g.2.1 3, 16384, .inl (GRf (j2 + 1) i (nI (j4 / 128)) lc ni (nI (j4 % 128)) pe rA rB rD rF rO rS rT rW tA pe 0 0 0 fb63_4)))] := hW
                                refine lv_iinc (v := nI (j4 + 1)) (lv' := [(6, .int (nI (j4 + 1))), (4, .int 0), (5, .int (nI (j2 + 1))), (0, .ref h0), (1, .int (nI i)), (2, .int (nI ni)), (3, .int (nI fi))]) (pc := 144) hx hb dX12_canBegin_144 hl (k := 0) rfl (nI_add j4 1) (by decide) rfl (fun ls hl => ?_)
                                refine lv_goto (tgt := 103) (pc := 147) hx hb dX12_canBegin_147 rfl ?_
                                have hW : WD g A s _ _ [(b7, .inl (g.2.1 1, 11, .inl rL)), (b8, .inl (g.2.1 1, 11, .inl rD)), (b11, .inl (g.2.1 1, 44, .inl rS)), (b12, .inl (g.2.1 1, 132, .inl rA)), (b13, .inl (g.2.1 1, 132, .inl rB)), (b14, .inl (g.2.1 1, 132, .inl rF)), (b15, .inl (g.2.1 1, 132, .inl rT)), (b16, .inl (g.2.1 1, 132, .inl rW)), (b17, .inl (g.2.1 3, 132, .inl rO)), (b62, .inl (g.2.1 3, 16384, .inl fb62_2)), (b63, .inl (g.2.1 3, 16384, .inl (GRf (j2 + 1) i (nI (j4 / 128)) lc ni (nI (j4 % 128)) pe rA rB rD rF rO rS rT rW tA pe 0 0 0 fb63_4))), (h0, .inr (12, vs)), (b6, .inl (g.2.1 1, 11, .inl rP)), (b61, .inl (g.2.1 1, 308, .inl tA))] := hW.pick [3, 4, 5, 6, 7, 8, 9, 10, 11, 0, 13, 1, 2, 12] rfl rfl
                                exact ih4 (j4 + 1) (GRf (j2 + 1) i (nI (j4 / 128)) lc ni (nI (j4 % 128)) pe rA rB rD rF rO rS rT rW tA pe 0 0 0 fb63_4) (by omega) (by omega) (by rw [L4_X12_canBegin, ← hst4]; exact (show L4_X12_canBegins rD rS rA rB rF rT rW rO tA lc pe i ni j2 fb62_2 j4 fb63_4 = (GRf (j2 + 1) i (nI (j4 / 128)) lc ni (nI (j4 % 128)) pe rA rB rD rF rO rS rT rW tA pe 0 0 0 fb63_4) from by rw [L4_X12_canBegins, if_neg c29]).symm) _ _ _ hW (lv_sub hl [0, 1, 2, 3, 4, 5, 6] rfl)
                        exact loop4 (16384 + 1) 0 (L3_X12_canBegin fb63_2 16384) (by omega) (by omega) rfl _ _ _ hW (lv_sub hl [0, 1, 2, 3, 4, 5, 6] rfl)
                      · have h34 : ¬ (16384 ≤ j3) := fun q => c12 ((nI_leI (a := 16384) (b := j3) (by omega) (by omega)).mpr q)
                        refine lv_aload_n (pc := 86) hx hb dX12_canBegin_86 rfl (lv_at hl 3 rfl) ?_
                        refine r_get X hW 11 ciX12 63 rfl (by decide) m_1290 rfl h63_ dX12_canBegin_87 ?_
                        refine lv_iload (pc := 90) hx hb dX12_canBegin_90 (lv_at hl 0 rfl) ?_
                        refine lv_iconst (v := 0) (pc := 92) hx hb dX12_canBegin_92 (by decide) ?_
                        refine r_zast (ws' := [(b7, .inl (g.2.1 1, 11, .inl rL)), (b8, .inl (g.2.1 1, 11, .inl rD)), (b11, .inl (g.2.1 1, 44, .inl rS)), (b12, .inl (g.2.1 1, 132, .inl rA)), (b13, .inl (g.2.1 1, 132, .inl rB)), (b14, .inl (g.2.1 1, 132, .inl rF)), (b15, .inl (g.2.1 1, 132, .inl rT)), (b16, .inl (g.2.1 1, 132, .inl rW)), (b17, .inl (g.2.1 3, 132, .inl rO)), (b62, .inl (g.2.1 3, 16384, .inl fb62_2)), (b63, .inl (g.2.1 3, 16384, .inl (upd fb63_3 j3 (0 : Int32)))), (h0, .inr (12, vs)), (b6, .inl (g.2.1 1, 11, .inl rP)), (b61, .inl (g.2.1 1, 308, .inl tA))]) X hW 10 rfl (vp_in_nI (by omega) (by decide)) (f' := (upd fb63_3 j3 (0 : Int32))) (by rw [nI_clamp (by omega), show vp_nar .boolean (0 : Int32) = (0 : Int32) from by decide]) rfl dX12_canBegin_93 (fun H locs hW => ?_)
                        refine lv_iinc (v := nI (j3 + 1)) (lv' := [(6, .int (nI (j3 + 1))), (4, .int 0), (5, .int (nI (j2 + 1))), (0, .ref h0), (1, .int (nI i)), (2, .int (nI ni)), (3, .int (nI fi))]) (pc := 94) hx hb dX12_canBegin_94 hl (k := 0) rfl (nI_add j3 1) (by decide) rfl (fun ls hl => ?_)
                        refine lv_goto (tgt := 78) (pc := 97) hx hb dX12_canBegin_97 rfl ?_
                        exact ih3 (j3 + 1) (upd fb63_3 j3 (0 : Int32)) (by omega) (by omega) (by rw [L3_X12_canBegin, ← hst3]; exact (show L3_X12_canBegins  j3 fb63_3 = (upd fb63_3 j3 (0 : Int32)) from rfl).symm) _ _ _ hW (lv_sub hl [0, 1, 2, 3, 4, 5, 6] rfl)
                  exact loop3 (16384 + 1) 0 fb63_2 (by omega) (by omega) rfl _ _ _ hW (lv_sub hl [0, 1, 2, 3, 4, 5, 6] rfl)
          exact loop2 (24 + 1) 0 (1 : Int32) (L1_X12_canBegin fi cN 16384) dN (by omega) (by omega) (Or.inr rfl) (show F_X12_canBegin rD rS rA rB rF rT rW rO tA cN dN lc pe i ni fi = L2_X12_canBegin rD rS rA rB rF rT rW rO tA lc pe i ni (24 + 1) 0 (1 : Int32) (L1_X12_canBegin fi cN 16384) dN from by rw [F_X12_canBegin, if_neg c2]).symm _ _ _ hW (lv_sub hl [0, 1, 2, 3, 4, 5] rfl)
        · have h35 : ¬ (16384 ≤ j1) := fun q => c4 ((nI_leI (a := 16384) (b := j1) (by omega) (by omega)).mpr q)
          refine lv_aload_n (pc := 26) hx hb dX12_canBegin_26 rfl (lv_at hl 1 rfl) ?_
          refine r_get X hW 11 ciX12 62 rfl (by decide) m_1289 rfl h62_ dX12_canBegin_27 ?_
          refine lv_iload (pc := 30) hx hb dX12_canBegin_30 (lv_at hl 0 rfl) ?_
          refine lv_iload (pc := 32) hx hb dX12_canBegin_32 (lv_at hl 0 rfl) ?_
          refine lv_sipush (v := 128) (pc := 34) hx hb dX12_canBegin_34 (by decide) ?_
          refine lv_iload_n (pc := 37) hx hb dX12_canBegin_37 rfl (lv_at hl 4 rfl) ?_
          refine lv_ishl (pc := 38) hx hb dX12_canBegin_38 ?_
          refine lv_icmp_ne (tgt := 46) (pc := 39) hx hb dX12_canBegin_39 rfl (fun c36 => ?_) (fun c36 => ?_)
          · refine lv_iconst (v := 0) (pc := 46) hx hb dX12_canBegin_46 (by decide) ?_
            refine r_zast (ws' := [(b7, .inl (g.2.1 1, 11, .inl rL)), (b8, .inl (g.2.1 1, 11, .inl rD)), (b11, .inl (g.2.1 1, 44, .inl rS)), (b12, .inl (g.2.1 1, 132, .inl rA)), (b13, .inl (g.2.1 1, 132, .inl rB)), (b14, .inl (g.2.1 1, 132, .inl rF)), (b15, .inl (g.2.1 1, 132, .inl rT)), (b16, .inl (g.2.1 1, 132, .inl rW)), (b17, .inl (g.2.1 3, 132, .inl rO)), (b62, .inl (g.2.1 3, 16384, .inl (upd fb62_1 j1 (0 : Int32)))), (b63, .inl (g.2.1 3, 16384, .inl dN)), (h0, .inr (12, vs)), (b6, .inl (g.2.1 1, 11, .inl rP)), (b61, .inl (g.2.1 1, 308, .inl tA))]) X hW 9 rfl (vp_in_nI (by omega) (by decide)) (f' := (upd fb62_1 j1 (0 : Int32))) (by rw [nI_clamp (by omega), show vp_nar .boolean (0 : Int32) = (0 : Int32) from by decide]) rfl dX12_canBegin_47 (fun H locs hW => ?_)
            refine lv_iinc (v := nI (j1 + 1)) (lv' := [(4, .int (nI (j1 + 1))), (0, .ref h0), (1, .int (nI i)), (2, .int (nI ni)), (3, .int (nI fi))]) (pc := 48) hx hb dX12_canBegin_48 hl (k := 0) rfl (nI_add j1 1) (by decide) rfl (fun ls hl => ?_)
            refine lv_goto (tgt := 18) (pc := 51) hx hb dX12_canBegin_51 rfl ?_
            exact ih1 (j1 + 1) (upd fb62_1 j1 (0 : Int32)) (by omega) (by omega) (by rw [L1_X12_canBegin, ← hst1]; exact (show L1_X12_canBegins fi j1 fb62_1 = (upd fb62_1 j1 (0 : Int32)) from by rw [L1_X12_canBegins, if_neg c36]).symm) _ _ _ hW (lv_sub hl [0, 1, 2, 3, 4] rfl)
          · refine lv_iconst (v := 1) (pc := 42) hx hb dX12_canBegin_42 (by decide) ?_
            refine lv_goto (tgt := 47) (pc := 43) hx hb dX12_canBegin_43 rfl ?_
            refine r_zast (ws' := [(b7, .inl (g.2.1 1, 11, .inl rL)), (b8, .inl (g.2.1 1, 11, .inl rD)), (b11, .inl (g.2.1 1, 44, .inl rS)), (b12, .inl (g.2.1 1, 132, .inl rA)), (b13, .inl (g.2.1 1, 132, .inl rB)), (b14, .inl (g.2.1 1, 132, .inl rF)), (b15, .inl (g.2.1 1, 132, .inl rT)), (b16, .inl (g.2.1 1, 132, .inl rW)), (b17, .inl (g.2.1 3, 132, .inl rO)), (b62, .inl (g.2.1 3, 16384, .inl (upd fb62_1 j1 (1 : Int32)))), (b63, .inl (g.2.1 3, 16384, .inl dN)), (h0, .inr (12, vs)), (b6, .inl (g.2.1 1, 11, .inl rP)), (b61, .inl (g.2.1 1, 308, .inl tA))]) X hW 9 rfl (vp_in_nI (by omega) (by decide)) (f' := (upd fb62_1 j1 (1 : Int32))) (by rw [nI_clamp (by omega), show vp_nar .boolean (1 : Int32) = (1 : Int32) from by decide]) rfl dX12_canBegin_47 (fun H locs hW => ?_)
            refine lv_iinc (v := nI (j1 + 1)) (lv' := [(4, .int (nI (j1 + 1))), (0, .ref h0), (1, .int (nI i)), (2, .int (nI ni)), (3, .int (nI fi))]) (pc := 48) hx hb dX12_canBegin_48 hl (k := 0) rfl (nI_add j1 1) (by decide) rfl (fun ls hl => ?_)
            refine lv_goto (tgt := 18) (pc := 51) hx hb dX12_canBegin_51 rfl ?_
            exact ih1 (j1 + 1) (upd fb62_1 j1 (1 : Int32)) (by omega) (by omega) (by rw [L1_X12_canBegin, ← hst1]; exact (show L1_X12_canBegins fi j1 fb62_1 = (upd fb62_1 j1 (1 : Int32)) from by rw [L1_X12_canBegins, if_pos c36]).symm) _ _ _ hW (lv_sub hl [0, 1, 2, 3, 4] rfl)
    exact loop1 (16384 + 1) 0 cN (by omega) (by omega) rfl _ _ _ hW (lv_sub hl [0, 1, 2, 3, 4] rfl)
  · refine lv_iconst (v := 0) (pc := 13) hx hb dX12_canBegin_13 (by decide) ?_
    have hF : F_X12_canBegin rD rS rA rB rF rT rW rO tA cN dN lc pe i ni fi = ((0 : Int32), cN, dN) := show F_X12_canBegin rD rS rA rB rF rT rW rO tA cN dN lc pe i ni fi = ((0 : Int32), cN, dN) from by rw [F_X12_canBegin, if_pos c2]
    exact e_z (u := [(h0, .inr (12, vs)), (b6, .inl (g.2.1 1, 11, .inl rP)), (b7, .inl (g.2.1 1, 11, .inl rL)), (b8, .inl (g.2.1 1, 11, .inl rD)), (b11, .inl (g.2.1 1, 44, .inl rS)), (b12, .inl (g.2.1 1, 132, .inl rA)), (b13, .inl (g.2.1 1, 132, .inl rB)), (b14, .inl (g.2.1 1, 132, .inl rF)), (b15, .inl (g.2.1 1, 132, .inl rT)), (b16, .inl (g.2.1 1, 132, .inl rW)), (b17, .inl (g.2.1 3, 132, .inl rO)), (b61, .inl (g.2.1 1, 308, .inl tA)), (b62, .inl (g.2.1 3, 16384, .inl cN)), (b63, .inl (g.2.1 3, 16384, .inl dN))]) X hQ hr (hW) rfl [11, 12, 0, 1, 2, 3, 4, 5, 6, 7, 8, 13, 9, 10] rfl rfl (⟨(congrArg Prod.fst hF).symm, by rw [hF]⟩) ⟨Nat.le_of_ble_eq_true rfl, Nat.le_of_ble_eq_true rfl⟩ dX12_canBegin_14

def L1_X12_who1s (rD : Nat → Int32) (rS : Nat → Int32) (rA : Nat → Int32) (rB : Nat → Int32) (rF : Nat → Int32) (rT : Nat → Int32) (rW : Nat → Int32) (rO : Nat → Int32) (tA : Nat → Int32) (lc : Nat) (pe : Nat) (i : Nat) (ni : Nat) (j1 : Nat) (x3_1 : Int32) (fb62_1 : Nat → Int32) (fb63_1 : Nat → Int32) : Int32 × (Nat → Int32) × (Nat → Int32) := if (F_X12_canBegin rD rS rA rB rF rT rW rO tA fb62_1 fb63_1 lc pe i ni j1).1 = 0 then ((x3_1 ||| (0 : Int32), ((F_X12_canBegin rD rS rA rB rF rT rW rO tA fb62_1 fb63_1 lc pe i ni j1).2.1), ((F_X12_canBegin rD rS rA rB rF rT rW rO tA fb62_1 fb63_1 lc pe i ni j1).2.2))) else ((x3_1 ||| ((1 : Int32) <<< ((nI j1) &&& 31)), ((F_X12_canBegin rD rS rA rB rF rT rW rO tA fb62_1 fb63_1 lc pe i ni j1).2.1), ((F_X12_canBegin rD rS rA rB rF rT rW rO tA fb62_1 fb63_1 lc pe i ni j1).2.2)))
def L1_X12_who1 (rD : Nat → Int32) (rS : Nat → Int32) (rA : Nat → Int32) (rB : Nat → Int32) (rF : Nat → Int32) (rT : Nat → Int32) (rW : Nat → Int32) (rO : Nat → Int32) (tA : Nat → Int32) (lc : Nat) (pe : Nat) (i : Nat) (ni : Nat) (i0_ : Int32) (i1_ : Nat → Int32) (i2_ : Nat → Int32) : Nat → Int32 × (Nat → Int32) × (Nat → Int32)
  | 0 => (i0_, i1_, i2_)
  | k_ + 1 => L1_X12_who1s rD rS rA rB rF rT rW rO tA lc pe i ni k_ ((L1_X12_who1 rD rS rA rB rF rT rW rO tA lc pe i ni i0_ i1_ i2_ k_).1) ((L1_X12_who1 rD rS rA rB rF rT rW rO tA lc pe i ni i0_ i1_ i2_ k_).2.1) ((L1_X12_who1 rD rS rA rB rF rT rW rO tA lc pe i ni i0_ i1_ i2_ k_).2.2)
def F_X12_who1 (rD : Nat → Int32) (rS : Nat → Int32) (rA : Nat → Int32) (rB : Nat → Int32) (rF : Nat → Int32) (rT : Nat → Int32) (rW : Nat → Int32) (rO : Nat → Int32) (tA : Nat → Int32) (cN : Nat → Int32) (dN : Nat → Int32) (lc : Nat) (pe : Nat) (i : Nat) (ni : Nat) : Int32 × (Nat → Int32) × (Nat → Int32) := (((L1_X12_who1 rD rS rA rB rF rT rW rO tA lc pe i ni (0 : Int32) cN dN pe).1), ((L1_X12_who1 rD rS rA rB rF rT rW rO tA lc pe i ni (0 : Int32) cN dN pe).2.1), ((L1_X12_who1 rD rS rA rB rF rT rW rO tA lc pe i ni (0 : Int32) cN dN pe).2.2))
set_option maxHeartbeats 4000000 in
set_option maxRecDepth 100000 in
theorem K_X12_who1 (l : Launch) (g : GG) (h0 : Nat) (vs : List Value) (nv : Nat) (b6 : Nat) (rP : Nat → Int32) (b7 : Nat) (rL : Nat → Int32) (b8 : Nat) (rD : Nat → Int32) (b11 : Nat) (rS : Nat → Int32) (b12 : Nat) (rA : Nat → Int32) (b13 : Nat) (rB : Nat → Int32) (b14 : Nat) (rF : Nat → Int32) (b15 : Nat) (rT : Nat → Int32) (b16 : Nat) (rW : Nat → Int32) (b17 : Nat) (rO : Nat → Int32) (b61 : Nat) (tA : Nat → Int32) (b62 : Nat) (cN : Nat → Int32) (b63 : Nat) (dN : Nat → Int32) (lc : Nat) (pe : Nat) (i : Nat) (ni : Nat) (hlen : vs.length = 64) (h18_ : vs[18]? = some (.int (nI nv))) (h6_ : vs[6]? = some (.ref b6)) (h7_ : vs[7]? = some (.ref b7)) (h8_ : vs[8]? = some (.ref b8)) (h11_ : vs[11]? = some (.ref b11)) (h12_ : vs[12]? = some (.ref b12)) (h13_ : vs[13]? = some (.ref b13)) (h14_ : vs[14]? = some (.ref b14)) (h15_ : vs[15]? = some (.ref b15)) (h16_ : vs[16]? = some (.ref b16)) (h17_ : vs[17]? = some (.ref b17)) (h61_ : vs[61]? = some (.ref b61)) (h62_ : vs[62]? = some (.ref b62)) (h63_ : vs[63]? = some (.ref b63)) (hn : nv ≤ 10) (hv : i < nv) (hlc : lc ≤ 12) (hL : rL i = nI lc) (hpe : pe ≤ 7) (hP : rP i = nI pe) (hni : ni < 4) (h19_ : vs[19]? = some (.int (-1))) (h20_ : vs[20]? = some (.int (-1))) : MetI l g yX12_who cX12_who 5 (some .int) 11 0 0 [.ref h0, .int (nI i), .int (nI ni)] [(h0, .inr (12, vs)), (b6, .inl (g.2.1 1, 11, .inl rP)), (b7, .inl (g.2.1 1, 11, .inl rL)), (b8, .inl (g.2.1 1, 11, .inl rD)), (b11, .inl (g.2.1 1, 44, .inl rS)), (b12, .inl (g.2.1 1, 132, .inl rA)), (b13, .inl (g.2.1 1, 132, .inl rB)), (b14, .inl (g.2.1 1, 132, .inl rF)), (b15, .inl (g.2.1 1, 132, .inl rT)), (b16, .inl (g.2.1 1, 132, .inl rW)), (b17, .inl (g.2.1 3, 132, .inl rO)), (b61, .inl (g.2.1 1, 308, .inl tA)), (b62, .inl (g.2.1 3, 16384, .inl cN)), (b63, .inl (g.2.1 3, 16384, .inl dN))] (fun r u => r = (F_X12_who1 rD rS rA rB rF rT rW rO tA cN dN lc pe i ni).1 ∧ u = [(h0, .inr (12, (vs.set 0 (.int 0)))), (b6, .inl (g.2.1 1, 11, .inl rP)), (b7, .inl (g.2.1 1, 11, .inl rL)), (b8, .inl (g.2.1 1, 11, .inl rD)), (b11, .inl (g.2.1 1, 44, .inl rS)), (b12, .inl (g.2.1 1, 132, .inl rA)), (b13, .inl (g.2.1 1, 132, .inl rB)), (b14, .inl (g.2.1 1, 132, .inl rF)), (b15, .inl (g.2.1 1, 132, .inl rT)), (b16, .inl (g.2.1 1, 132, .inl rW)), (b17, .inl (g.2.1 3, 132, .inl rO)), (b61, .inl (g.2.1 1, 308, .inl tA)), (b62, .inl (g.2.1 3, 16384, .inl ((F_X12_who1 rD rS rA rB rF rT rW rO tA cN dN lc pe i ni).2.1))), (b63, .inl (g.2.1 3, 16384, .inl ((F_X12_who1 rD rS rA rB rF rT rW rO tA cN dN lc pe i ni).2.2)))]) := by
  refine MetI.of (own := RX12) rfl (by decide) (Nat.le_of_ble_eq_true rfl) ?_
  intro p e s m below meth c A ls args Q hQ X hr hin hW hl
  have hx := X.1
  have hb := X.2.1
  have hl : lv_has ls 5 [(0, .ref h0), (1, .int (nI i)), (2, .int (nI ni))] := hl
  refine lv_aload_n (pc := 0) hx hb dX12_who_0 rfl (lv_at hl 0 rfl) ?_
  refine lv_iload_n (pc := 1) hx hb dX12_who_1 rfl (lv_at hl 1 rfl) ?_
  refine lv_iload_n (pc := 2) hx hb dX12_who_2 rfl (lv_at hl 2 rfl) ?_
  refine c_Vi (pc := 3) (As := [.int (nI i), .int (nI ni)]) (rest := []) (wr := [(b6, .inl (g.2.1 1, 11, .inl rP)), (b7, .inl (g.2.1 1, 11, .inl rL)), (b8, .inl (g.2.1 1, 11, .inl rD)), (b11, .inl (g.2.1 1, 44, .inl rS)), (b12, .inl (g.2.1 1, 132, .inl rA)), (b13, .inl (g.2.1 1, 132, .inl rB)), (b14, .inl (g.2.1 1, 132, .inl rF)), (b15, .inl (g.2.1 1, 132, .inl rT)), (b16, .inl (g.2.1 1, 132, .inl rW)), (b17, .inl (g.2.1 3, 132, .inl rO)), (b61, .inl (g.2.1 1, 308, .inl tA)), (b62, .inl (g.2.1 3, 16384, .inl cN)), (b63, .inl (g.2.1 3, 16384, .inl dN))]) X hW 0 ciX12 rfl (K_X12_isAsked l g h0 vs nv (nI i) (nI ni) hlen h18_ (by omega)) vX12_315 [0] [1, 2, 3, 4, 5, 6, 7, 8, 9, 10, 11, 12, 13] rfl rfl rfl rfl rfl rfl hl.1 rfl (Nat.le_of_ble_eq_true rfl) ⟨Nat.le_of_ble_eq_true rfl, Nat.le_of_ble_eq_true rfl⟩ ⟨Nat.le_of_ble_eq_true rfl, Nat.le_of_ble_eq_true rfl⟩ dX12_who_3 (fun r1 u9 H locs hq hW => ?_)
  obtain ⟨rfl, rfl⟩ := hq
  have hW : WD g A s _ _ [(b6, .inl (g.2.1 1, 11, .inl rP)), (b7, .inl (g.2.1 1, 11, .inl rL)), (b8, .inl (g.2.1 1, 11, .inl rD)), (b11, .inl (g.2.1 1, 44, .inl rS)), (b12, .inl (g.2.1 1, 132, .inl rA)), (b13, .inl (g.2.1 1, 132, .inl rB)), (b14, .inl (g.2.1 1, 132, .inl rF)), (b15, .inl (g.2.1 1, 132, .inl rT)), (b16, .inl (g.2.1 1, 132, .inl rW)), (b17, .inl (g.2.1 3, 132, .inl rO)), (b61, .inl (g.2.1 1, 308, .inl tA)), (b62, .inl (g.2.1 3, 16384, .inl cN)), (b63, .inl (g.2.1 3, 16384, .inl dN)), (h0, .inr (12, (vs.set 0 (.int 0))))] := hW
  refine lv_if_ne (tgt := 11) (pc := 6) hx hb dX12_who_6 rfl (fun c2 => ?_) (fun c2 => absurd c2 (ask_ok hn hv hni))
  refine lv_iconst (v := 0) (pc := 11) hx hb dX12_who_11 (by decide) ?_
  refine lv_istore_n (lv' := [(3, .int 0), (0, .ref h0), (1, .int (nI i)), (2, .int (nI ni))]) (pc := 12) hx hb dX12_who_12 rfl hl (by decide) rfl (fun ls hl => ?_)
  refine lv_iconst (v := 0) (pc := 13) hx hb dX12_who_13 (by decide) ?_
  refine lv_istore (lv' := [(4, .int 0), (3, .int 0), (0, .ref h0), (1, .int (nI i)), (2, .int (nI ni))]) (pc := 14) hx hb dX12_who_14 hl (by decide) rfl (fun ls hl => ?_)
  have loop1 : ∀ (fu1 : Nat) (j1 : Nat) (x3_1 : Int32) (fb62_1 : Nat → Int32) (fb63_1 : Nat → Int32), (pe < fu1 + j1) → (j1 ≤ pe) → ((x3_1, fb62_1, fb63_1) = L1_X12_who1 rD rS rA rB rF rT rW rO tA lc pe i ni (0 : Int32) cN dN j1) → ∀ (H : Heap) (locs : List Loc) (ls : Array Slot), WD g A s H locs [(b6, .inl (g.2.1 1, 11, .inl rP)), (b7, .inl (g.2.1 1, 11, .inl rL)), (b8, .inl (g.2.1 1, 11, .inl rD)), (b11, .inl (g.2.1 1, 44, .inl rS)), (b12, .inl (g.2.1 1, 132, .inl rA)), (b13, .inl (g.2.1 1, 132, .inl rB)), (b14, .inl (g.2.1 1, 132, .inl rF)), (b15, .inl (g.2.1 1, 132, .inl rT)), (b16, .inl (g.2.1 1, 132, .inl rW)), (b17, .inl (g.2.1 3, 132, .inl rO)), (b61, .inl (g.2.1 1, 308, .inl tA)), (b62, .inl (g.2.1 3, 16384, .inl fb62_1)), (b63, .inl (g.2.1 3, 16384, .inl fb63_1)), (h0, .inr (12, (vs.set 0 (.int 0))))] → lv_has ls 5 [(4, .int (nI j1)), (3, .int x3_1), (0, .ref h0), (1, .int (nI i)), (2, .int (nI ni))] → W p l e (RM 11 0 0) s m args below meth c H locs 0 0 Q (F0 m 16 ls []) := by
    intro fu1
    induction fu1 with
    | zero =>
      intro j1 x3_1 fb62_1 fb63_1 hm1 hj1 hst1
      exact absurd hm1 (by omega)
    | succ fu1 ih1 =>
      intro j1 x3_1 fb62_1 fb63_1 hm1 hj1 hst1 H locs ls hW hl
      refine lv_iload (pc := 16) hx hb dX12_who_16 (lv_at hl 0 rfl) ?_
      refine lv_aload_n (pc := 18) hx hb dX12_who_18 rfl (lv_at hl 2 rfl) ?_
      refine r_get X hW 13 ciX12 6 rfl (by decide) m_1237 rfl (sv_ne (k := 0) (by decide) h6_) dX12_who_19 ?_
      refine lv_iload_n (pc := 22) hx hb dX12_who_22 rfl (lv_at hl 3 rfl) ?_
      refine r_iald X hW 0 rfl (vp_in_nI (by omega) (by decide)) dX12_who_23 ?_
      refine lv_topi (fun v3 ev3 => ?_)
      obtain rfl : v3 = rP i := ev3.trans (by rw [nI_clamp (by omega)])
      rw [hP]
      refine lv_icmp_ge (tgt := 55) (pc := 24) hx hb dX12_who_24 rfl (fun c4 => ?_) (fun c4 => ?_)
      · have h5 : pe ≤ j1 := (nI_leI (a := pe) (b := j1) (by omega) (by omega)).mp c4
        have hN1 : j1 = pe := by omega
        rw [hN1] at hst1
        have hs1_0 : (L1_X12_who1 rD rS rA rB rF rT rW rO tA lc pe i ni (0 : Int32) cN dN pe).1 = x3_1 := (congrArg (fun z => z.1) hst1).symm
        have hs1_1 : (L1_X12_who1 rD rS rA rB rF rT rW rO tA lc pe i ni (0 : Int32) cN dN pe).2.1 = fb62_1 := (congrArg (fun z => z.2.1) hst1).symm
        have hs1_2 : (L1_X12_who1 rD rS rA rB rF rT rW rO tA lc pe i ni (0 : Int32) cN dN pe).2.2 = fb63_1 := (congrArg (fun z => z.2.2) hst1).symm
        clear hst1
        subst hs1_0
        subst hs1_1
        subst hs1_2
        have hW : WD g A s _ _ [(b6, .inl (g.2.1 1, 11, .inl rP)), (b7, .inl (g.2.1 1, 11, .inl rL)), (b8, .inl (g.2.1 1, 11, .inl rD)), (b11, .inl (g.2.1 1, 44, .inl rS)), (b12, .inl (g.2.1 1, 132, .inl rA)), (b13, .inl (g.2.1 1, 132, .inl rB)), (b14, .inl (g.2.1 1, 132, .inl rF)), (b15, .inl (g.2.1 1, 132, .inl rT)), (b16, .inl (g.2.1 1, 132, .inl rW)), (b17, .inl (g.2.1 3, 132, .inl rO)), (b61, .inl (g.2.1 1, 308, .inl tA)), (b62, .inl (g.2.1 3, 16384, .inl ((L1_X12_who1 rD rS rA rB rF rT rW rO tA lc pe i ni (0 : Int32) cN dN pe).2.1))), (b63, .inl (g.2.1 3, 16384, .inl ((L1_X12_who1 rD rS rA rB rF rT rW rO tA lc pe i ni (0 : Int32) cN dN pe).2.2))), (h0, .inr (12, (vs.set 0 (.int 0))))] := hW
        refine lv_iload_n (pc := 55) hx hb dX12_who_55 rfl (lv_at hl 1 rfl) ?_
        have hF : F_X12_who1 rD rS rA rB rF rT rW rO tA cN dN lc pe i ni = (((L1_X12_who1 rD rS rA rB rF rT rW rO tA lc pe i ni (0 : Int32) cN dN pe).1), ((L1_X12_who1 rD rS rA rB rF rT rW rO tA lc pe i ni (0 : Int32) cN dN pe).2.1), ((L1_X12_who1 rD rS rA rB rF rT rW rO tA lc pe i ni (0 : Int32) cN dN pe).2.2)) := show F_X12_who1 rD rS rA rB rF rT rW rO tA cN dN lc pe i ni = (((L1_X12_who1 rD rS rA rB rF rT rW rO tA lc pe i ni (0 : Int32) cN dN pe).1), ((L1_X12_who1 rD rS rA rB rF rT rW rO tA lc pe i ni (0 : Int32) cN dN pe).2.1), ((L1_X12_who1 rD rS rA rB rF rT rW rO tA lc pe i ni (0 : Int32) cN dN pe).2.2)) from rfl
        exact e_i (u := [(h0, .inr (12, (vs.set 0 (.int 0)))), (b6, .inl (g.2.1 1, 11, .inl rP)), (b7, .inl (g.2.1 1, 11, .inl rL)), (b8, .inl (g.2.1 1, 11, .inl rD)), (b11, .inl (g.2.1 1, 44, .inl rS)), (b12, .inl (g.2.1 1, 132, .inl rA)), (b13, .inl (g.2.1 1, 132, .inl rB)), (b14, .inl (g.2.1 1, 132, .inl rF)), (b15, .inl (g.2.1 1, 132, .inl rT)), (b16, .inl (g.2.1 1, 132, .inl rW)), (b17, .inl (g.2.1 3, 132, .inl rO)), (b61, .inl (g.2.1 1, 308, .inl tA)), (b62, .inl (g.2.1 3, 16384, .inl ((L1_X12_who1 rD rS rA rB rF rT rW rO tA lc pe i ni (0 : Int32) cN dN pe).2.1))), (b63, .inl (g.2.1 3, 16384, .inl ((L1_X12_who1 rD rS rA rB rF rT rW rO tA lc pe i ni (0 : Int32) cN dN pe).2.2)))]) X hQ hr (hW) [13, 0, 1, 2, 3, 4, 5, 6, 7, 8, 9, 10, 11, 12] rfl rfl (⟨(congrArg Prod.fst hF).symm, by rw [hF]⟩) ⟨Nat.le_of_ble_eq_true rfl, Nat.le_of_ble_eq_true rfl⟩ dX12_who_56
      · have h6 : ¬ (pe ≤ j1) := fun q => c4 ((nI_leI (a := pe) (b := j1) (by omega) (by omega)).mpr q)
        refine lv_iload_n (pc := 27) hx hb dX12_who_27 rfl (lv_at hl 1 rfl) ?_
        refine lv_aload_n (pc := 28) hx hb dX12_who_28 rfl (lv_at hl 2 rfl) ?_
        refine lv_iload_n (pc := 29) hx hb dX12_who_29 rfl (lv_at hl 3 rfl) ?_
        refine lv_iload_n (pc := 30) hx hb dX12_who_30 rfl (lv_at hl 4 rfl) ?_
        refine lv_iload (pc := 31) hx hb dX12_who_31 (lv_at hl 0 rfl) ?_
        refine c_Vi (pc := 33) (As := [.int (nI i), .int (nI ni), .int (nI j1)]) (rest := [.int x3_1]) (wr := []) X hW 13 ciX12 rfl (K_X12_canBegin l g h0 (vs.set 0 (.int 0)) b6 rP b7 rL b8 rD b11 rS b12 rA b13 rB b14 rF b15 rT b16 rW b17 rO b61 tA b62 fb62_1 b63 fb63_1 lc pe i ni j1 (sv_len hlen) (sv_ne (k := 0) (by decide) h6_) (sv_ne (k := 0) (by decide) h7_) (sv_ne (k := 0) (by decide) h8_) (sv_ne (k := 0) (by decide) h11_) (sv_ne (k := 0) (by decide) h12_) (sv_ne (k := 0) (by decide) h13_) (sv_ne (k := 0) (by decide) h14_) (sv_ne (k := 0) (by decide) h15_) (sv_ne (k := 0) (by decide) h16_) (sv_ne (k := 0) (by decide) h17_) (sv_ne (k := 0) (by decide) h61_) (sv_ne (k := 0) (by decide) h62_) (sv_ne (k := 0) (by decide) h63_) (by omega) hlc hL hpe hP hni (sv_ne (k := 0) (by decide) h19_) (sv_ne (k := 0) (by decide) h20_) (by omega)) vX12_408 [13, 0, 1, 2, 3, 4, 5, 6, 7, 8, 9, 10, 11, 12] [] rfl rfl rfl rfl rfl rfl hl.1 rfl (Nat.le_of_ble_eq_true rfl) ⟨Nat.le_of_ble_eq_true rfl, Nat.le_of_ble_eq_true rfl⟩ ⟨Nat.le_of_ble_eq_true rfl, Nat.le_of_ble_eq_true rfl⟩ dX12_who_33 (fun r7 u9 H locs hq hW => ?_)
        obtain ⟨rfl, rfl⟩ := hq
        have hW : WD g A s _ _ [(h0, .inr (12, (vs.set 0 (.int 0)))), (b6, .inl (g.2.1 1, 11, .inl rP)), (b7, .inl (g.2.1 1, 11, .inl rL)), (b8, .inl (g.2.1 1, 11, .inl rD)), (b11, .inl (g.2.1 1, 44, .inl rS)), (b12, .inl (g.2.1 1, 132, .inl rA)), (b13, .inl (g.2.1 1, 132, .inl rB)), (b14, .inl (g.2.1 1, 132, .inl rF)), (b15, .inl (g.2.1 1, 132, .inl rT)), (b16, .inl (g.2.1 1, 132, .inl rW)), (b17, .inl (g.2.1 3, 132, .inl rO)), (b61, .inl (g.2.1 1, 308, .inl tA)), (b62, .inl (g.2.1 3, 16384, .inl ((F_X12_canBegin rD rS rA rB rF rT rW rO tA fb62_1 fb63_1 lc pe i ni j1).2.1))), (b63, .inl (g.2.1 3, 16384, .inl ((F_X12_canBegin rD rS rA rB rF rT rW rO tA fb62_1 fb63_1 lc pe i ni j1).2.2)))] := hW
        refine lv_if_eq (tgt := 46) (pc := 36) hx hb dX12_who_36 rfl (fun c8 => ?_) (fun c8 => ?_)
        · refine lv_iconst (v := 0) (pc := 46) hx hb dX12_who_46 (by decide) ?_
          refine lv_ior (pc := 47) hx hb dX12_who_47 ?_
          refine lv_istore_n (lv' := [(3, .int (x3_1 ||| (0 : Int32))), (4, .int (nI j1)), (0, .ref h0), (1, .int (nI i)), (2, .int (nI ni))]) (pc := 48) hx hb dX12_who_48 rfl hl (by decide) rfl (fun ls hl => ?_)
          refine lv_iinc (v := nI (j1 + 1)) (lv' := [(4, .int (nI (j1 + 1))), (3, .int (x3_1 ||| (0 : Int32))), (0, .ref h0), (1, .int (nI i)), (2, .int (nI ni))]) (pc := 49) hx hb dX12_who_49 hl (k := 1) rfl (nI_add j1 1) (by decide) rfl (fun ls hl => ?_)
          refine lv_goto (tgt := 16) (pc := 52) hx hb dX12_who_52 rfl ?_
          have hW : WD g A s _ _ [(b6, .inl (g.2.1 1, 11, .inl rP)), (b7, .inl (g.2.1 1, 11, .inl rL)), (b8, .inl (g.2.1 1, 11, .inl rD)), (b11, .inl (g.2.1 1, 44, .inl rS)), (b12, .inl (g.2.1 1, 132, .inl rA)), (b13, .inl (g.2.1 1, 132, .inl rB)), (b14, .inl (g.2.1 1, 132, .inl rF)), (b15, .inl (g.2.1 1, 132, .inl rT)), (b16, .inl (g.2.1 1, 132, .inl rW)), (b17, .inl (g.2.1 3, 132, .inl rO)), (b61, .inl (g.2.1 1, 308, .inl tA)), (b62, .inl (g.2.1 3, 16384, .inl ((F_X12_canBegin rD rS rA rB rF rT rW rO tA fb62_1 fb63_1 lc pe i ni j1).2.1))), (b63, .inl (g.2.1 3, 16384, .inl ((F_X12_canBegin rD rS rA rB rF rT rW rO tA fb62_1 fb63_1 lc pe i ni j1).2.2))), (h0, .inr (12, (vs.set 0 (.int 0))))] := hW.pick [1, 2, 3, 4, 5, 6, 7, 8, 9, 10, 11, 12, 13, 0] rfl rfl
          exact ih1 (j1 + 1) (x3_1 ||| (0 : Int32)) ((F_X12_canBegin rD rS rA rB rF rT rW rO tA fb62_1 fb63_1 lc pe i ni j1).2.1) ((F_X12_canBegin rD rS rA rB rF rT rW rO tA fb62_1 fb63_1 lc pe i ni j1).2.2) (by omega) (by omega) (by rw [L1_X12_who1, ← hst1]; exact (show L1_X12_who1s rD rS rA rB rF rT rW rO tA lc pe i ni j1 x3_1 fb62_1 fb63_1 = (x3_1 ||| (0 : Int32), ((F_X12_canBegin rD rS rA rB rF rT rW rO tA fb62_1 fb63_1 lc pe i ni j1).2.1), ((F_X12_canBegin rD rS rA rB rF rT rW rO tA fb62_1 fb63_1 lc pe i ni j1).2.2)) from by rw [L1_X12_who1s, if_pos c8]).symm) _ _ _ hW (lv_sub hl [0, 1, 2, 3, 4] rfl)
        · refine lv_iconst (v := 1) (pc := 39) hx hb dX12_who_39 (by decide) ?_
          refine lv_iload (pc := 40) hx hb dX12_who_40 (lv_at hl 0 rfl) ?_
          refine lv_ishl (pc := 42) hx hb dX12_who_42 ?_
          refine lv_goto (tgt := 47) (pc := 43) hx hb dX12_who_43 rfl ?_
          refine lv_ior (pc := 47) hx hb dX12_who_47 ?_
          refine lv_istore_n (lv' := [(3, .int (x3_1 ||| ((1 : Int32) <<< ((nI j1) &&& 31)))), (4, .int (nI j1)), (0, .ref h0), (1, .int (nI i)), (2, .int (nI ni))]) (pc := 48) hx hb dX12_who_48 rfl hl (by decide) rfl (fun ls hl => ?_)
          refine lv_iinc (v := nI (j1 + 1)) (lv' := [(4, .int (nI (j1 + 1))), (3, .int (x3_1 ||| ((1 : Int32) <<< ((nI j1) &&& 31)))), (0, .ref h0), (1, .int (nI i)), (2, .int (nI ni))]) (pc := 49) hx hb dX12_who_49 hl (k := 1) rfl (nI_add j1 1) (by decide) rfl (fun ls hl => ?_)
          refine lv_goto (tgt := 16) (pc := 52) hx hb dX12_who_52 rfl ?_
          have hW : WD g A s _ _ [(b6, .inl (g.2.1 1, 11, .inl rP)), (b7, .inl (g.2.1 1, 11, .inl rL)), (b8, .inl (g.2.1 1, 11, .inl rD)), (b11, .inl (g.2.1 1, 44, .inl rS)), (b12, .inl (g.2.1 1, 132, .inl rA)), (b13, .inl (g.2.1 1, 132, .inl rB)), (b14, .inl (g.2.1 1, 132, .inl rF)), (b15, .inl (g.2.1 1, 132, .inl rT)), (b16, .inl (g.2.1 1, 132, .inl rW)), (b17, .inl (g.2.1 3, 132, .inl rO)), (b61, .inl (g.2.1 1, 308, .inl tA)), (b62, .inl (g.2.1 3, 16384, .inl ((F_X12_canBegin rD rS rA rB rF rT rW rO tA fb62_1 fb63_1 lc pe i ni j1).2.1))), (b63, .inl (g.2.1 3, 16384, .inl ((F_X12_canBegin rD rS rA rB rF rT rW rO tA fb62_1 fb63_1 lc pe i ni j1).2.2))), (h0, .inr (12, (vs.set 0 (.int 0))))] := hW.pick [1, 2, 3, 4, 5, 6, 7, 8, 9, 10, 11, 12, 13, 0] rfl rfl
          exact ih1 (j1 + 1) (x3_1 ||| ((1 : Int32) <<< ((nI j1) &&& 31))) ((F_X12_canBegin rD rS rA rB rF rT rW rO tA fb62_1 fb63_1 lc pe i ni j1).2.1) ((F_X12_canBegin rD rS rA rB rF rT rW rO tA fb62_1 fb63_1 lc pe i ni j1).2.2) (by omega) (by omega) (by rw [L1_X12_who1, ← hst1]; exact (show L1_X12_who1s rD rS rA rB rF rT rW rO tA lc pe i ni j1 x3_1 fb62_1 fb63_1 = (x3_1 ||| ((1 : Int32) <<< ((nI j1) &&& 31)), ((F_X12_canBegin rD rS rA rB rF rT rW rO tA fb62_1 fb63_1 lc pe i ni j1).2.1), ((F_X12_canBegin rD rS rA rB rF rT rW rO tA fb62_1 fb63_1 lc pe i ni j1).2.2)) from by rw [L1_X12_who1s, if_neg c8]).symm) _ _ _ hW (lv_sub hl [0, 1, 2, 3, 4] rfl)
  exact loop1 (pe + 1) 0 (0 : Int32) cN dN (by omega) (by omega) rfl _ _ _ hW (lv_sub hl [0, 1, 2, 3, 4] rfl)

def F_X12_who0 (nv : Nat) (x : Int32) (y : Int32) : Int32 := if F_X12_isAsked nv x y = 0 then ((-1 : Int32)) else ((-1 : Int32))
set_option maxHeartbeats 4000000 in
set_option maxRecDepth 100000 in
theorem K_X12_who0 (l : Launch) (g : GG) (h0 : Nat) (vs : List Value) (nv : Nat) (x : Int32) (y : Int32) (hlen : vs.length = 64) (h18_ : vs[18]? = some (.int (nI nv))) (hn : nv ≤ 10) (hbad : F_X12_isAsked nv x y = 0) : MetI l g yX12_who cX12_who 5 (some .int) 3 0 0 [.ref h0, .int x, .int y] [(h0, .inr (12, vs))] (fun r u => r = (F_X12_who0 nv x y) ∧ u = [(h0, .inr (12, (vs.set 0 (.int 0))))]) := by
  refine MetI.of (own := RX12) rfl (by decide) (Nat.le_of_ble_eq_true rfl) ?_
  intro p e s m below meth c A ls args Q hQ X hr hin hW hl
  have hx := X.1
  have hb := X.2.1
  have hl : lv_has ls 5 [(0, .ref h0), (1, .int x), (2, .int y)] := hl
  refine lv_aload_n (pc := 0) hx hb dX12_who_0 rfl (lv_at hl 0 rfl) ?_
  refine lv_iload_n (pc := 1) hx hb dX12_who_1 rfl (lv_at hl 1 rfl) ?_
  refine lv_iload_n (pc := 2) hx hb dX12_who_2 rfl (lv_at hl 2 rfl) ?_
  refine c_Vi (pc := 3) (As := [.int x, .int y]) (rest := []) (wr := []) X hW 0 ciX12 rfl (K_X12_isAsked l g h0 vs nv x y hlen h18_ (by omega)) vX12_315 [0] [] rfl rfl rfl rfl rfl rfl hl.1 rfl (Nat.le_of_ble_eq_true rfl) ⟨Nat.le_of_ble_eq_true rfl, Nat.le_of_ble_eq_true rfl⟩ ⟨Nat.le_of_ble_eq_true rfl, Nat.le_of_ble_eq_true rfl⟩ dX12_who_3 (fun r1 u9 H locs hq hW => ?_)
  obtain ⟨rfl, rfl⟩ := hq
  have hW : WD g A s _ _ [(h0, .inr (12, (vs.set 0 (.int 0))))] := hW
  refine lv_if_ne (tgt := 11) (pc := 6) hx hb dX12_who_6 rfl (fun c2 => ?_) (fun c2 => ?_)
  · exact False.elim (c2 hbad)
  · refine lv_iconst (v := (-1)) (pc := 9) hx hb dX12_who_9 (by decide) ?_
    have hF : F_X12_who0 nv x y = (-1 : Int32) := show F_X12_who0 nv x y = (-1 : Int32) from by rw [F_X12_who0, if_pos c2]
    exact e_i (u := [(h0, .inr (12, (vs.set 0 (.int 0))))]) X hQ hr (hW) [0] rfl rfl (⟨hF.symm, rfl⟩) ⟨Nat.le_of_ble_eq_true rfl, Nat.le_of_ble_eq_true rfl⟩ dX12_who_10

def gV (La Lb lw : Nat → Int32) (v lc : Nat) : Nat × Nat → Prop := fun q => ∃ l : Nat, l < lc ∧ ¬ lw l = 0 ∧ La (12 * v + l) = nI q.1 ∧ Lb (12 * v + l) = nI q.2
def rwt (G : Nat → Int32) (d : Nat) : Nat → Int32 := fun o => G (7 * d + o)
def gb16 (r : Nat → Int32) : Prop := ∀ j : Nat, j < 16 → 0 ≤ (r j).toInt ∧ (r j).toInt ≤ 11
theorem gb16_upd {r : Nat → Int32} (h : gb16 r) {i k : Nat} (hi : i ≤ 11) : gb16 (upd r k (nI i)) := fun j hj => by
  by_cases e : j = k
  · subst e; simp only [upd, if_true]; rw [nI_toInt (by omega)]; omega
  · simp only [upd, e, if_false]; exact h j hj
/-- none of the lines so far is the first of a row that does -/
def gno (La Lb lw : Nat → Int32) (v lc pp : Nat) (ev : Int32) (k : Nat) (th : Nat → Int32) (i : Nat) : Prop := ∀ l : Nat, l < i → ∀ a b : Nat, ¬ lw l = 0 → La (12 * v + l) = nI a → Lb (12 * v + l) = nI b → a < pp → b < pp → gus th a b → ¬ gok (gV La Lb lw v lc) pp ev k (gaft th a b)
theorem gno_0 {La Lb lw : Nat → Int32} {v lc pp : Nat} {ev : Int32} {k : Nat} {th : Nat → Int32} : gno La Lb lw v lc pp ev k th 0 := fun l hl => absurd hl (Nat.not_lt_zero l)
theorem nI_inj6 {a b : Nat} (ha : a < 2 ^ 31) (hb : b < 2 ^ 31) (h : nI a = nI b) : a = b := (nI_eq ha hb).mp h
theorem gno_s {La Lb lw : Nat → Int32} {v lc pp : Nat} {ev : Int32} {k : Nat} {th : Nat → Int32} {i a b : Nat} (h : gno La Lb lw v lc pp ev k th i) (hpp : pp ≤ 7) (ha : a ≤ 6) (hb : b ≤ 6) (ea : La (12 * v + i) = nI a) (eb : Lb (12 * v + i) = nI b) (hn : a < pp → b < pp → ¬ lw i = 0 → gus th a b → ¬ gok (gV La Lb lw v lc) pp ev k (gaft th a b)) : gno La Lb lw v lc pp ev k th (i + 1) := fun l hl a' b' h1 h2 h3 h4 h5 h6 => by
  by_cases e : l = i
  · subst e
    have e1 : a = a' := nI_inj6 (by omega) (by omega) (ea.symm.trans h2)
    have e2 : b = b' := nI_inj6 (by omega) (by omega) (eb.symm.trans h3)
    subst e1 e2
    exact hn h4 h5 h1 h6
  · exact h l (by omega) a' b' h1 h2 h3 h4 h5 h6
theorem gno_end {La Lb lw : Nat → Int32} {v lc pp : Nat} {ev : Int32} {k : Nat} {th : Nat → Int32} {i : Nat} (h : gno La Lb lw v lc pp ev k th i) (hi : i = lc) (hna : ¬ gall pp ev th) : ¬ gok (gV La Lb lw v lc) pp ev (k + 1) th := fun ⟨ls, h1, h2, h3⟩ => by
  obtain ⟨q, ⟨l, hl, hw, ea, eb⟩, h4, h5, h6, h7⟩ := gok_first h1 h2 h3 hna
  exact h l (by omega) q.1 q.2 hw ea eb h4 h5 h6 h7
theorem gall_s {p : Nat} {ev : Int32} {th : Nat → Int32} {k : Nat} (h : ∀ o : Nat, o < k → th o = ev) (h2 : th k = ev) : ∀ o : Nat, o < k + 1 → th o = ev := fun o ho => by
  by_cases e : o = k
  · rw [e]; exact h2
  · exact h o (by omega)
theorem m_1682 : (Cond.code yX12_gossips prog_14_method_66_code 10 (Option.some FieldType.boolean)) ∈ BW := bw (tb8 2 (by decide +kernel)) (by decide +kernel)
theorem dX12_gossips_0 : decode cX12_gossips 0 = .ok (.bipush 7, 2) := by decide +kernel
theorem dX12_gossips_2 : decode cX12_gossips 2 = .ok (.iload_n 2, 1) := by decide +kernel
theorem dX12_gossips_3 : decode cX12_gossips 3 = .ok (.imul, 1) := by decide +kernel
theorem dX12_gossips_4 : decode cX12_gossips 4 = .ok (.istore 4, 2) := by decide +kernel
theorem dX12_gossips_6 : decode cX12_gossips 6 = .ok (.iconst 1, 1) := by decide +kernel
theorem dX12_gossips_7 : decode cX12_gossips 7 = .ok (.istore 5, 2) := by decide +kernel
theorem dX12_gossips_9 : decode cX12_gossips 9 = .ok (.iconst 0, 1) := by decide +kernel
theorem dX12_gossips_10 : decode cX12_gossips 10 = .ok (.istore 6, 2) := by decide +kernel
theorem dX12_gossips_12 : decode cX12_gossips 12 = .ok (.iload 6, 2) := by decide +kernel
theorem dX12_gossips_14 : decode cX12_gossips 14 = .ok (.aload_n 0, 1) := by decide +kernel
theorem dX12_gossips_15 : decode cX12_gossips 15 = .ok (.getfield 13, 3) := by decide +kernel
theorem dX12_gossips_18 : decode cX12_gossips 18 = .ok (.iload_n 1, 1) := by decide +kernel
theorem dX12_gossips_19 : decode cX12_gossips 19 = .ok (.iaload, 1) := by decide +kernel
theorem dX12_gossips_20 : decode cX12_gossips 20 = .ok (.if_icmp .ge 39, 3) := by decide +kernel
theorem dX12_gossips_59 : decode cX12_gossips 59 = .ok (.iload 5, 2) := by decide +kernel
theorem dX12_gossips_61 : decode cX12_gossips 61 = .ok (.ifCond .ne 7, 3) := by decide +kernel
theorem dX12_gossips_68 : decode cX12_gossips 68 = .ok (.iload 5, 2) := by decide +kernel
theorem dX12_gossips_70 : decode cX12_gossips 70 = .ok (.ireturn, 1) := by decide +kernel
theorem dX12_gossips_64 : decode cX12_gossips 64 = .ok (.iload_n 3, 1) := by decide +kernel
theorem dX12_gossips_65 : decode cX12_gossips 65 = .ok (.ifCond .ne 6, 3) := by decide +kernel
theorem dX12_gossips_23 : decode cX12_gossips 23 = .ok (.iload 5, 2) := by decide +kernel
theorem dX12_gossips_25 : decode cX12_gossips 25 = .ok (.ifCond .eq 25, 3) := by decide +kernel
theorem dX12_gossips_50 : decode cX12_gossips 50 = .ok (.iconst 0, 1) := by decide +kernel
theorem dX12_gossips_51 : decode cX12_gossips 51 = .ok (.istore 5, 2) := by decide +kernel
theorem dX12_gossips_53 : decode cX12_gossips 53 = .ok (.iinc 6 1, 3) := by decide +kernel
theorem dX12_gossips_56 : decode cX12_gossips 56 = .ok (.goto (-44), 3) := by decide +kernel
theorem dX12_gossips_28 : decode cX12_gossips 28 = .ok (.aload_n 0, 1) := by decide +kernel
theorem dX12_gossips_29 : decode cX12_gossips 29 = .ok (.getfield 104, 3) := by decide +kernel
theorem dX12_gossips_32 : decode cX12_gossips 32 = .ok (.iload 4, 2) := by decide +kernel
theorem dX12_gossips_34 : decode cX12_gossips 34 = .ok (.iload 6, 2) := by decide +kernel
theorem dX12_gossips_36 : decode cX12_gossips 36 = .ok (.iadd, 1) := by decide +kernel
theorem dX12_gossips_37 : decode cX12_gossips 37 = .ok (.iaload, 1) := by decide +kernel
theorem dX12_gossips_38 : decode cX12_gossips 38 = .ok (.aload_n 0, 1) := by decide +kernel
theorem dX12_gossips_39 : decode cX12_gossips 39 = .ok (.iload_n 1, 1) := by decide +kernel
theorem dX12_gossips_40 : decode cX12_gossips 40 = .ok (.invokevirtual 274, 3) := by decide +kernel
theorem dX12_gossips_43 : decode cX12_gossips 43 = .ok (.if_icmp .ne 7, 3) := by decide +kernel
theorem dX12_gossips_46 : decode cX12_gossips 46 = .ok (.iconst 1, 1) := by decide +kernel
theorem dX12_gossips_47 : decode cX12_gossips 47 = .ok (.goto 4, 3) := by decide +kernel
theorem dX12_gossips_71 : decode cX12_gossips 71 = .ok (.iconst 0, 1) := by decide +kernel
theorem dX12_gossips_72 : decode cX12_gossips 72 = .ok (.istore 6, 2) := by decide +kernel
theorem dX12_gossips_74 : decode cX12_gossips 74 = .ok (.iload 6, 2) := by decide +kernel
theorem dX12_gossips_76 : decode cX12_gossips 76 = .ok (.aload_n 0, 1) := by decide +kernel
theorem dX12_gossips_77 : decode cX12_gossips 77 = .ok (.getfield 17, 3) := by decide +kernel
theorem dX12_gossips_80 : decode cX12_gossips 80 = .ok (.iload_n 1, 1) := by decide +kernel
theorem dX12_gossips_81 : decode cX12_gossips 81 = .ok (.iaload, 1) := by decide +kernel
theorem dX12_gossips_82 : decode cX12_gossips 82 = .ok (.if_icmp .ge 200, 3) := by decide +kernel
theorem dX12_gossips_282 : decode cX12_gossips 282 = .ok (.iconst 0, 1) := by decide +kernel
theorem dX12_gossips_283 : decode cX12_gossips 283 = .ok (.ireturn, 1) := by decide +kernel
theorem dX12_gossips_85 : decode cX12_gossips 85 = .ok (.bipush 12, 2) := by decide +kernel
theorem dX12_gossips_87 : decode cX12_gossips 87 = .ok (.iload_n 1, 1) := by decide +kernel
theorem dX12_gossips_88 : decode cX12_gossips 88 = .ok (.imul, 1) := by decide +kernel
theorem dX12_gossips_89 : decode cX12_gossips 89 = .ok (.iload 6, 2) := by decide +kernel
theorem dX12_gossips_91 : decode cX12_gossips 91 = .ok (.iadd, 1) := by decide +kernel
theorem dX12_gossips_92 : decode cX12_gossips 92 = .ok (.istore 7, 2) := by decide +kernel
theorem dX12_gossips_94 : decode cX12_gossips 94 = .ok (.aload_n 0, 1) := by decide +kernel
theorem dX12_gossips_95 : decode cX12_gossips 95 = .ok (.getfield 104, 3) := by decide +kernel
theorem dX12_gossips_98 : decode cX12_gossips 98 = .ok (.iload 4, 2) := by decide +kernel
theorem dX12_gossips_100 : decode cX12_gossips 100 = .ok (.aload_n 0, 1) := by decide +kernel
theorem dX12_gossips_101 : decode cX12_gossips 101 = .ok (.getfield 32, 3) := by decide +kernel
theorem dX12_gossips_104 : decode cX12_gossips 104 = .ok (.iload 7, 2) := by decide +kernel
theorem dX12_gossips_106 : decode cX12_gossips 106 = .ok (.iaload, 1) := by decide +kernel
theorem dX12_gossips_107 : decode cX12_gossips 107 = .ok (.iadd, 1) := by decide +kernel
theorem dX12_gossips_108 : decode cX12_gossips 108 = .ok (.iaload, 1) := by decide +kernel
theorem dX12_gossips_109 : decode cX12_gossips 109 = .ok (.aload_n 0, 1) := by decide +kernel
theorem dX12_gossips_110 : decode cX12_gossips 110 = .ok (.getfield 104, 3) := by decide +kernel
theorem dX12_gossips_113 : decode cX12_gossips 113 = .ok (.iload 4, 2) := by decide +kernel
theorem dX12_gossips_115 : decode cX12_gossips 115 = .ok (.aload_n 0, 1) := by decide +kernel
theorem dX12_gossips_116 : decode cX12_gossips 116 = .ok (.getfield 35, 3) := by decide +kernel
theorem dX12_gossips_119 : decode cX12_gossips 119 = .ok (.iload 7, 2) := by decide +kernel
theorem dX12_gossips_121 : decode cX12_gossips 121 = .ok (.iaload, 1) := by decide +kernel
theorem dX12_gossips_122 : decode cX12_gossips 122 = .ok (.iadd, 1) := by decide +kernel
theorem dX12_gossips_123 : decode cX12_gossips 123 = .ok (.iaload, 1) := by decide +kernel
theorem dX12_gossips_124 : decode cX12_gossips 124 = .ok (.ior, 1) := by decide +kernel
theorem dX12_gossips_125 : decode cX12_gossips 125 = .ok (.istore 8, 2) := by decide +kernel
theorem dX12_gossips_127 : decode cX12_gossips 127 = .ok (.aload_n 0, 1) := by decide +kernel
theorem dX12_gossips_128 : decode cX12_gossips 128 = .ok (.getfield 110, 3) := by decide +kernel
theorem dX12_gossips_131 : decode cX12_gossips 131 = .ok (.iload 6, 2) := by decide +kernel
theorem dX12_gossips_133 : decode cX12_gossips 133 = .ok (.baload, 1) := by decide +kernel
theorem dX12_gossips_134 : decode cX12_gossips 134 = .ok (.ifCond .eq 142, 3) := by decide +kernel
theorem dX12_gossips_276 : decode cX12_gossips 276 = .ok (.iinc 6 1, 3) := by decide +kernel
theorem dX12_gossips_279 : decode cX12_gossips 279 = .ok (.goto (-205), 3) := by decide +kernel
theorem dX12_gossips_137 : decode cX12_gossips 137 = .ok (.aload_n 0, 1) := by decide +kernel
theorem dX12_gossips_138 : decode cX12_gossips 138 = .ok (.getfield 104, 3) := by decide +kernel
theorem dX12_gossips_141 : decode cX12_gossips 141 = .ok (.iload 4, 2) := by decide +kernel
theorem dX12_gossips_143 : decode cX12_gossips 143 = .ok (.aload_n 0, 1) := by decide +kernel
theorem dX12_gossips_144 : decode cX12_gossips 144 = .ok (.getfield 32, 3) := by decide +kernel
theorem dX12_gossips_147 : decode cX12_gossips 147 = .ok (.iload 7, 2) := by decide +kernel
theorem dX12_gossips_149 : decode cX12_gossips 149 = .ok (.iaload, 1) := by decide +kernel
theorem dX12_gossips_150 : decode cX12_gossips 150 = .ok (.iadd, 1) := by decide +kernel
theorem dX12_gossips_151 : decode cX12_gossips 151 = .ok (.iaload, 1) := by decide +kernel
theorem dX12_gossips_152 : decode cX12_gossips 152 = .ok (.iload 8, 2) := by decide +kernel
theorem dX12_gossips_154 : decode cX12_gossips 154 = .ok (.if_icmp .ne 26, 3) := by decide +kernel
theorem dX12_gossips_180 : decode cX12_gossips 180 = .ok (.iconst 0, 1) := by decide +kernel
theorem dX12_gossips_181 : decode cX12_gossips 181 = .ok (.istore 9, 2) := by decide +kernel
theorem dX12_gossips_183 : decode cX12_gossips 183 = .ok (.iload 9, 2) := by decide +kernel
theorem dX12_gossips_185 : decode cX12_gossips 185 = .ok (.aload_n 0, 1) := by decide +kernel
theorem dX12_gossips_186 : decode cX12_gossips 186 = .ok (.getfield 13, 3) := by decide +kernel
theorem dX12_gossips_189 : decode cX12_gossips 189 = .ok (.iload_n 1, 1) := by decide +kernel
theorem dX12_gossips_190 : decode cX12_gossips 190 = .ok (.iaload, 1) := by decide +kernel
theorem dX12_gossips_191 : decode cX12_gossips 191 = .ok (.if_icmp .ge 61, 3) := by decide +kernel
theorem dX12_gossips_252 : decode cX12_gossips 252 = .ok (.aload_n 0, 1) := by decide +kernel
theorem dX12_gossips_253 : decode cX12_gossips 253 = .ok (.getfield 107, 3) := by decide +kernel
theorem dX12_gossips_256 : decode cX12_gossips 256 = .ok (.iload_n 2, 1) := by decide +kernel
theorem dX12_gossips_257 : decode cX12_gossips 257 = .ok (.iload 6, 2) := by decide +kernel
theorem dX12_gossips_259 : decode cX12_gossips 259 = .ok (.iastore, 1) := by decide +kernel
theorem dX12_gossips_260 : decode cX12_gossips 260 = .ok (.aload_n 0, 1) := by decide +kernel
theorem dX12_gossips_261 : decode cX12_gossips 261 = .ok (.iload_n 1, 1) := by decide +kernel
theorem dX12_gossips_262 : decode cX12_gossips 262 = .ok (.iload_n 2, 1) := by decide +kernel
theorem dX12_gossips_263 : decode cX12_gossips 263 = .ok (.iconst 1, 1) := by decide +kernel
theorem dX12_gossips_264 : decode cX12_gossips 264 = .ok (.iadd, 1) := by decide +kernel
theorem dX12_gossips_265 : decode cX12_gossips 265 = .ok (.iload_n 3, 1) := by decide +kernel
theorem dX12_gossips_266 : decode cX12_gossips 266 = .ok (.iconst 1, 1) := by decide +kernel
theorem dX12_gossips_267 : decode cX12_gossips 267 = .ok (.isub, 1) := by decide +kernel
theorem m_1679 : (Cond.methodLink "NoonValleyModel" 346 yX12_gossips) ∈ BW := bw (tb7 239 (by decide +kernel)) (by decide +kernel)
theorem m_1681 : (Cond.instanceMethod yX12_gossips) ∈ BW := bw (tb8 1 (by decide +kernel)) (by decide +kernel)
theorem s_6_10 : (Cond.selects RX12 yX12_gossips yX12_gossips) ∈ BW := bw (sl6 (y := yX12_gossips) (n := 64) 10 (by decide +kernel)) (by decide +kernel)
theorem vX12_346 : LV RX12 346 RX12 yX12_gossips cX12_gossips 10 (some .boolean) 3 := ⟨m_1679, m_1681, s_6_10, m_12, m_1682, rfl, by decide, by decide, by decide +kernel⟩
theorem dX12_gossips_268 : decode cX12_gossips 268 = .ok (.invokevirtual 346, 3) := by decide +kernel
theorem dX12_gossips_271 : decode cX12_gossips 271 = .ok (.ifCond .eq 5, 3) := by decide +kernel
theorem dX12_gossips_274 : decode cX12_gossips 274 = .ok (.iconst 1, 1) := by decide +kernel
theorem dX12_gossips_275 : decode cX12_gossips 275 = .ok (.ireturn, 1) := by decide +kernel
theorem dX12_gossips_194 : decode cX12_gossips 194 = .ok (.aload_n 0, 1) := by decide +kernel
theorem dX12_gossips_195 : decode cX12_gossips 195 = .ok (.getfield 104, 3) := by decide +kernel
theorem dX12_gossips_198 : decode cX12_gossips 198 = .ok (.iload 4, 2) := by decide +kernel
theorem dX12_gossips_200 : decode cX12_gossips 200 = .ok (.bipush 7, 2) := by decide +kernel
theorem dX12_gossips_202 : decode cX12_gossips 202 = .ok (.iadd, 1) := by decide +kernel
theorem dX12_gossips_203 : decode cX12_gossips 203 = .ok (.iload 9, 2) := by decide +kernel
theorem dX12_gossips_205 : decode cX12_gossips 205 = .ok (.iadd, 1) := by decide +kernel
theorem dX12_gossips_206 : decode cX12_gossips 206 = .ok (.iload 9, 2) := by decide +kernel
theorem dX12_gossips_208 : decode cX12_gossips 208 = .ok (.aload_n 0, 1) := by decide +kernel
theorem dX12_gossips_209 : decode cX12_gossips 209 = .ok (.getfield 32, 3) := by decide +kernel
theorem dX12_gossips_212 : decode cX12_gossips 212 = .ok (.iload 7, 2) := by decide +kernel
theorem dX12_gossips_214 : decode cX12_gossips 214 = .ok (.iaload, 1) := by decide +kernel
theorem dX12_gossips_215 : decode cX12_gossips 215 = .ok (.if_icmp .eq 15, 3) := by decide +kernel
theorem dX12_gossips_230 : decode cX12_gossips 230 = .ok (.iload 8, 2) := by decide +kernel
theorem dX12_gossips_232 : decode cX12_gossips 232 = .ok (.goto 13, 3) := by decide +kernel
theorem dX12_gossips_245 : decode cX12_gossips 245 = .ok (.iastore, 1) := by decide +kernel
theorem dX12_gossips_246 : decode cX12_gossips 246 = .ok (.iinc 9 1, 3) := by decide +kernel
theorem dX12_gossips_249 : decode cX12_gossips 249 = .ok (.goto (-66), 3) := by decide +kernel
theorem dX12_gossips_218 : decode cX12_gossips 218 = .ok (.iload 9, 2) := by decide +kernel
theorem dX12_gossips_220 : decode cX12_gossips 220 = .ok (.aload_n 0, 1) := by decide +kernel
theorem dX12_gossips_221 : decode cX12_gossips 221 = .ok (.getfield 35, 3) := by decide +kernel
theorem dX12_gossips_224 : decode cX12_gossips 224 = .ok (.iload 7, 2) := by decide +kernel
theorem dX12_gossips_226 : decode cX12_gossips 226 = .ok (.iaload, 1) := by decide +kernel
theorem dX12_gossips_227 : decode cX12_gossips 227 = .ok (.if_icmp .ne 8, 3) := by decide +kernel
theorem dX12_gossips_235 : decode cX12_gossips 235 = .ok (.aload_n 0, 1) := by decide +kernel
theorem dX12_gossips_236 : decode cX12_gossips 236 = .ok (.getfield 104, 3) := by decide +kernel
theorem dX12_gossips_239 : decode cX12_gossips 239 = .ok (.iload 4, 2) := by decide +kernel
theorem dX12_gossips_241 : decode cX12_gossips 241 = .ok (.iload 9, 2) := by decide +kernel
theorem dX12_gossips_243 : decode cX12_gossips 243 = .ok (.iadd, 1) := by decide +kernel
theorem dX12_gossips_244 : decode cX12_gossips 244 = .ok (.iaload, 1) := by decide +kernel
theorem dX12_gossips_157 : decode cX12_gossips 157 = .ok (.aload_n 0, 1) := by decide +kernel
theorem dX12_gossips_158 : decode cX12_gossips 158 = .ok (.getfield 104, 3) := by decide +kernel
theorem dX12_gossips_161 : decode cX12_gossips 161 = .ok (.iload 4, 2) := by decide +kernel
theorem dX12_gossips_163 : decode cX12_gossips 163 = .ok (.aload_n 0, 1) := by decide +kernel
theorem dX12_gossips_164 : decode cX12_gossips 164 = .ok (.getfield 35, 3) := by decide +kernel
theorem dX12_gossips_167 : decode cX12_gossips 167 = .ok (.iload 7, 2) := by decide +kernel
theorem dX12_gossips_169 : decode cX12_gossips 169 = .ok (.iaload, 1) := by decide +kernel
theorem dX12_gossips_170 : decode cX12_gossips 170 = .ok (.iadd, 1) := by decide +kernel
theorem dX12_gossips_171 : decode cX12_gossips 171 = .ok (.iaload, 1) := by decide +kernel
theorem dX12_gossips_172 : decode cX12_gossips 172 = .ok (.iload 8, 2) := by decide +kernel
theorem dX12_gossips_174 : decode cX12_gossips 174 = .ok (.if_icmp .ne 6, 3) := by decide +kernel
theorem dX12_gossips_177 : decode cX12_gossips 177 = .ok (.goto 99, 3) := by decide +kernel
set_option maxHeartbeats 40000000 in
set_option maxRecDepth 100000 in
theorem C_X12_gossips_0 (l : Launch) (g : GG) (h0 b1 b6 b7 b8 b9 b10 b11 b12 b13 b14 b15 b16 b17 b21 b22 b23 b24 b25 b26 b28 b29 b30 b31 b32 b33 b34 b35 b36 b46 b47 b48 b49 b50 b51 b52 b53 b54 b55 b56 b57 b58 b59 b60 b61 b62 b63 : Nat) (i0 i2 i3 i4 i5 i18 i19 i20 i27 i37 i38 i39 i40 i41 i42 i43 i44 i45 : Int32) (P Lc La Lb lw G gr0 : Nat → Int32) (v lc pp dn : Nat) (hv : v ≤ 10) (hlc : lc ≤ 12) (hpp : pp ≤ 7) (hP : P v = nI pp) (hLc : Lc v = nI lc) (hLA : in6 La) (hLB : in6 Lb) (hg0 : gb16 gr0) (hdn : dn + 0 ≤ 15) : MetI l g yX12_gossips cX12_gossips 10 (some .boolean) 1 0 0 [.ref h0, .int (nI v), .int (nI dn), .int 0] [(h0, .inr (12, [.int i0, .ref b1, .int i2, .int i3, .int i4, .int i5, .ref b6, .ref b7, .ref b8, .ref b9, .ref b10, .ref b11, .ref b12, .ref b13, .ref b14, .ref b15, .ref b16, .ref b17, .int i18, .int i19, .int i20, .ref b21, .ref b22, .ref b23, .ref b24, .ref b25, .ref b26, .int i27, .ref b28, .ref b29, .ref b30, .ref b31, .ref b32, .ref b33, .ref b34, .ref b35, .ref b36, .int i37, .int i38, .int i39, .int i40, .int i41, .int i42, .int i43, .int i44, .int i45, .ref b46, .ref b47, .ref b48, .ref b49, .ref b50, .ref b51, .ref b52, .ref b53, .ref b54, .ref b55, .ref b56, .ref b57, .ref b58, .ref b59, .ref b60, .ref b61, .ref b62, .ref b63])), (b6, .inl (g.2.1 1, 11, .inl P)), (b7, .inl (g.2.1 1, 11, .inl Lc)), (b12, .inl (g.2.1 1, 132, .inl La)), (b13, .inl (g.2.1 1, 132, .inl Lb)), (b48, .inl (g.2.1 3, 12, .inl lw)), (b46, .inl (g.2.1 1, 112, .inl G)), (b47, .inl (g.2.1 1, 16, .inl gr0))] (fun r u => ∃ G' gr' : Nat → Int32, (r = 0 ∨ r = 1) ∧ (gok (gV La Lb lw v lc) pp (evy (nI pp)) 0 (rwt G dn) → r = 1) ∧ (∀ x : Nat, x < 7 * (dn + 1) → G' x = G x) ∧ gb16 gr' ∧ u = [(h0, .inr (12, [.int i0, .ref b1, .int i2, .int i3, .int i4, .int i5, .ref b6, .ref b7, .ref b8, .ref b9, .ref b10, .ref b11, .ref b12, .ref b13, .ref b14, .ref b15, .ref b16, .ref b17, .int i18, .int i19, .int i20, .ref b21, .ref b22, .ref b23, .ref b24, .ref b25, .ref b26, .int i27, .ref b28, .ref b29, .ref b30, .ref b31, .ref b32, .ref b33, .ref b34, .ref b35, .ref b36, .int i37, .int i38, .int i39, .int i40, .int i41, .int i42, .int i43, .int i44, .int i45, .ref b46, .ref b47, .ref b48, .ref b49, .ref b50, .ref b51, .ref b52, .ref b53, .ref b54, .ref b55, .ref b56, .ref b57, .ref b58, .ref b59, .ref b60, .ref b61, .ref b62, .ref b63])), (b6, .inl (g.2.1 1, 11, .inl P)), (b7, .inl (g.2.1 1, 11, .inl Lc)), (b12, .inl (g.2.1 1, 132, .inl La)), (b13, .inl (g.2.1 1, 132, .inl Lb)), (b48, .inl (g.2.1 3, 12, .inl lw)), (b46, .inl (g.2.1 1, 112, .inl G')), (b47, .inl (g.2.1 1, 16, .inl gr'))]) := by
  refine MetI.of (own := RX12) rfl (by decide) (Nat.le_of_ble_eq_true rfl) ?_
  intro p e s m below meth c A ls args Q hQ X hr hin hW hl
  have hx := X.1
  have hb := X.2.1
  have hl : lv_has ls 10 [(0, .ref h0), (1, .int (nI v)), (2, .int (nI dn)), (3, .int 0)] := hl
  refine lv_bipush (v := 7) (pc := 0) hx hb dX12_gossips_0 (by decide) ?_
  refine lv_iload_n (pc := 2) hx hb dX12_gossips_2 rfl (lv_at hl 2 rfl) ?_
  refine lv_imul (pc := 3) hx hb dX12_gossips_3 ?_
  refine lv_topi (fun uv1 euv1 => ?_)
  obtain rfl : uv1 = nI (7 * dn) := euv1.trans (pk_mul _ _)
  refine lv_istore (lv' := [(4, .int (nI (7 * dn))), (0, .ref h0), (1, .int (nI v)), (2, .int (nI dn)), (3, .int 0)]) (pc := 4) hx hb dX12_gossips_4 hl (by decide) rfl (fun ls hl => ?_)
  refine lv_iconst (v := 1) (pc := 6) hx hb dX12_gossips_6 (by decide) ?_
  refine lv_istore (lv' := [(5, .int 1), (4, .int (nI (7 * dn))), (0, .ref h0), (1, .int (nI v)), (2, .int (nI dn)), (3, .int 0)]) (pc := 7) hx hb dX12_gossips_7 hl (by decide) rfl (fun ls hl => ?_)
  refine lv_iconst (v := 0) (pc := 9) hx hb dX12_gossips_9 (by decide) ?_
  refine lv_istore (lv' := [(6, .int 0), (5, .int 1), (4, .int (nI (7 * dn))), (0, .ref h0), (1, .int (nI v)), (2, .int (nI dn)), (3, .int 0)]) (pc := 10) hx hb dX12_gossips_10 hl (by decide) rfl (fun ls hl => ?_)
  have loop1 : ∀ (fu : Nat) (k : Nat) (al : Int32), (pp < fu + k) → (k ≤ pp) → ((al = 1 ∧ ∀ o : Nat, o < k → (rwt G dn) o = evy (nI pp)) ∨ (al = 0 ∧ ¬ gall pp (evy (nI pp)) (rwt G dn))) → ∀ (H : Heap) (locs : List Loc) (ls : Array Slot), WD g A s H locs [(h0, .inr (12, [.int i0, .ref b1, .int i2, .int i3, .int i4, .int i5, .ref b6, .ref b7, .ref b8, .ref b9, .ref b10, .ref b11, .ref b12, .ref b13, .ref b14, .ref b15, .ref b16, .ref b17, .int i18, .int i19, .int i20, .ref b21, .ref b22, .ref b23, .ref b24, .ref b25, .ref b26, .int i27, .ref b28, .ref b29, .ref b30, .ref b31, .ref b32, .ref b33, .ref b34, .ref b35, .ref b36, .int i37, .int i38, .int i39, .int i40, .int i41, .int i42, .int i43, .int i44, .int i45, .ref b46, .ref b47, .ref b48, .ref b49, .ref b50, .ref b51, .ref b52, .ref b53, .ref b54, .ref b55, .ref b56, .ref b57, .ref b58, .ref b59, .ref b60, .ref b61, .ref b62, .ref b63])), (b6, .inl (g.2.1 1, 11, .inl P)), (b7, .inl (g.2.1 1, 11, .inl Lc)), (b12, .inl (g.2.1 1, 132, .inl La)), (b13, .inl (g.2.1 1, 132, .inl Lb)), (b48, .inl (g.2.1 3, 12, .inl lw)), (b46, .inl (g.2.1 1, 112, .inl G)), (b47, .inl (g.2.1 1, 16, .inl gr0))] → lv_has ls 10 [(0, .ref h0), (1, .int (nI v)), (2, .int (nI dn)), (3, .int 0), (4, .int (nI (7 * dn))), (5, .int al), (6, .int (nI k))] → W p l e (RM 1 0 0) s m args below meth c H locs 0 0 Q (F0 m 12 ls []) := by
    intro fu
    induction fu with
    | zero =>
      intro k al hm hk hal
      exact absurd hm (by omega)
    | succ fu ih1 =>
      intro k al hm hk hal H locs ls hW hl
      refine lv_iload (pc := 12) hx hb dX12_gossips_12 (lv_at hl 6 rfl) ?_
      refine lv_aload_n (pc := 14) hx hb dX12_gossips_14 rfl (lv_at hl 0 rfl) ?_
      refine r_get X hW 0 ciX12 6 rfl (by decide) m_1237 rfl rfl dX12_gossips_15 ?_
      refine lv_iload_n (pc := 18) hx hb dX12_gossips_18 rfl (lv_at hl 1 rfl) ?_
      refine r_iald X hW 1 rfl (vp_in_nI (by omega) (by decide)) dX12_gossips_19 ?_
      refine lv_topi (fun uv2 euv2 => ?_)
      obtain rfl : uv2 = nI pp := euv2.trans (by rw [nI_clamp (by omega)]; exact hP)
      refine lv_icmp_ge (tgt := 59) (pc := 20) hx hb dX12_gossips_20 rfl (fun c3 => ?_) (fun c3 => ?_)
      · have hkp : k = pp := Nat.le_antisymm hk (ge_t (by omega) (by omega) c3)
        rw [hkp] at hal
        rcases hal with ⟨ha1, hal⟩ | ⟨ha1, hal⟩
        · subst ha1
          refine lv_iload (pc := 59) hx hb dX12_gossips_59 (lv_at hl 5 rfl) ?_
          refine lv_if_ne (tgt := 68) (pc := 61) hx hb dX12_gossips_61 rfl (fun c4 => ?_) (fun c4 => absurd c4 (by decide))
          refine lv_iload (pc := 68) hx hb dX12_gossips_68 (lv_at hl 5 rfl) ?_
          exact e_z X hQ hr hW (u := [(h0, .inr (12, [.int i0, .ref b1, .int i2, .int i3, .int i4, .int i5, .ref b6, .ref b7, .ref b8, .ref b9, .ref b10, .ref b11, .ref b12, .ref b13, .ref b14, .ref b15, .ref b16, .ref b17, .int i18, .int i19, .int i20, .ref b21, .ref b22, .ref b23, .ref b24, .ref b25, .ref b26, .int i27, .ref b28, .ref b29, .ref b30, .ref b31, .ref b32, .ref b33, .ref b34, .ref b35, .ref b36, .int i37, .int i38, .int i39, .int i40, .int i41, .int i42, .int i43, .int i44, .int i45, .ref b46, .ref b47, .ref b48, .ref b49, .ref b50, .ref b51, .ref b52, .ref b53, .ref b54, .ref b55, .ref b56, .ref b57, .ref b58, .ref b59, .ref b60, .ref b61, .ref b62, .ref b63])), (b6, .inl (g.2.1 1, 11, .inl P)), (b7, .inl (g.2.1 1, 11, .inl Lc)), (b12, .inl (g.2.1 1, 132, .inl La)), (b13, .inl (g.2.1 1, 132, .inl Lb)), (b48, .inl (g.2.1 3, 12, .inl lw)), (b46, .inl (g.2.1 1, 112, .inl G)), (b47, .inl (g.2.1 1, 16, .inl gr0))]) rfl [0, 1, 2, 3, 4, 5, 6, 7] rfl rfl (⟨_, _, Or.inr rfl, fun _ => rfl, fun x hx => rfl, hg0, rfl⟩) ⟨Nat.le_of_ble_eq_true rfl, Nat.le_of_ble_eq_true rfl⟩ dX12_gossips_70
        · subst ha1
          refine lv_iload (pc := 59) hx hb dX12_gossips_59 (lv_at hl 5 rfl) ?_
          refine lv_if_ne (tgt := 68) (pc := 61) hx hb dX12_gossips_61 rfl (fun c5 => absurd (by decide) c5) (fun c5 => ?_)
          refine lv_iload_n (pc := 64) hx hb dX12_gossips_64 rfl (lv_at hl 3 rfl) ?_
          refine lv_if_ne (tgt := 71) (pc := 65) hx hb dX12_gossips_65 rfl (fun c6 => absurd (by decide) c6) (fun c6 => ?_)
          refine lv_iload (pc := 68) hx hb dX12_gossips_68 (lv_at hl 5 rfl) ?_
          exact e_z X hQ hr hW (u := [(h0, .inr (12, [.int i0, .ref b1, .int i2, .int i3, .int i4, .int i5, .ref b6, .ref b7, .ref b8, .ref b9, .ref b10, .ref b11, .ref b12, .ref b13, .ref b14, .ref b15, .ref b16, .ref b17, .int i18, .int i19, .int i20, .ref b21, .ref b22, .ref b23, .ref b24, .ref b25, .ref b26, .int i27, .ref b28, .ref b29, .ref b30, .ref b31, .ref b32, .ref b33, .ref b34, .ref b35, .ref b36, .int i37, .int i38, .int i39, .int i40, .int i41, .int i42, .int i43, .int i44, .int i45, .ref b46, .ref b47, .ref b48, .ref b49, .ref b50, .ref b51, .ref b52, .ref b53, .ref b54, .ref b55, .ref b56, .ref b57, .ref b58, .ref b59, .ref b60, .ref b61, .ref b62, .ref b63])), (b6, .inl (g.2.1 1, 11, .inl P)), (b7, .inl (g.2.1 1, 11, .inl Lc)), (b12, .inl (g.2.1 1, 132, .inl La)), (b13, .inl (g.2.1 1, 132, .inl Lb)), (b48, .inl (g.2.1 3, 12, .inl lw)), (b46, .inl (g.2.1 1, 112, .inl G)), (b47, .inl (g.2.1 1, 16, .inl gr0))]) rfl [0, 1, 2, 3, 4, 5, 6, 7] rfl rfl (⟨_, _, Or.inl rfl, fun q => absurd (gok_0 q) hal, fun x hx => rfl, hg0, rfl⟩) ⟨Nat.le_of_ble_eq_true rfl, Nat.le_of_ble_eq_true rfl⟩ dX12_gossips_70
      · have hkl : k < pp := ge_f (by omega) (by omega) c3
        refine lv_iload (pc := 23) hx hb dX12_gossips_23 (lv_at hl 5 rfl) ?_
        refine lv_if_eq (tgt := 50) (pc := 25) hx hb dX12_gossips_25 rfl (fun c7 => ?_) (fun c7 => ?_)
        · refine lv_iconst (v := 0) (pc := 50) hx hb dX12_gossips_50 (by decide) ?_
          refine lv_istore (lv' := [(5, .int 0), (0, .ref h0), (1, .int (nI v)), (2, .int (nI dn)), (3, .int 0), (4, .int (nI (7 * dn))), (6, .int (nI k))]) (pc := 51) hx hb dX12_gossips_51 hl (by decide) rfl (fun ls hl => ?_)
          refine lv_iinc (v := nI (k + 1)) (lv' := [(6, .int (nI (k + 1))), (5, .int 0), (0, .ref h0), (1, .int (nI v)), (2, .int (nI dn)), (3, .int 0), (4, .int (nI (7 * dn)))]) (pc := 53) hx hb dX12_gossips_53 hl (k := 6) rfl ((nI_succ k).symm) (by decide) rfl (fun ls hl => ?_)
          refine lv_goto (tgt := 12) (pc := 56) hx hb dX12_gossips_56 rfl ?_
          have hW : WD g A s _ _ [(h0, .inr (12, [.int i0, .ref b1, .int i2, .int i3, .int i4, .int i5, .ref b6, .ref b7, .ref b8, .ref b9, .ref b10, .ref b11, .ref b12, .ref b13, .ref b14, .ref b15, .ref b16, .ref b17, .int i18, .int i19, .int i20, .ref b21, .ref b22, .ref b23, .ref b24, .ref b25, .ref b26, .int i27, .ref b28, .ref b29, .ref b30, .ref b31, .ref b32, .ref b33, .ref b34, .ref b35, .ref b36, .int i37, .int i38, .int i39, .int i40, .int i41, .int i42, .int i43, .int i44, .int i45, .ref b46, .ref b47, .ref b48, .ref b49, .ref b50, .ref b51, .ref b52, .ref b53, .ref b54, .ref b55, .ref b56, .ref b57, .ref b58, .ref b59, .ref b60, .ref b61, .ref b62, .ref b63])), (b6, .inl (g.2.1 1, 11, .inl P)), (b7, .inl (g.2.1 1, 11, .inl Lc)), (b12, .inl (g.2.1 1, 132, .inl La)), (b13, .inl (g.2.1 1, 132, .inl Lb)), (b48, .inl (g.2.1 3, 12, .inl lw)), (b46, .inl (g.2.1 1, 112, .inl G)), (b47, .inl (g.2.1 1, 16, .inl gr0))] := hW.pick [0, 1, 2, 3, 4, 5, 6, 7] rfl rfl
          exact ih1 (k + 1) 0 (by omega) (by omega) (Or.inr ⟨rfl, (hal.resolve_left (fun r => absurd (r.1.symm.trans c7) (by decide))).2⟩) _ _ _ hW (lv_sub hl [2, 3, 4, 5, 6, 1, 0] rfl)
        · have hal9 : ¬ al = 0 := c7
          have hal1 : ¬ al = 0 → ∀ o : Nat, o < k → (rwt G dn) o = evy (nI pp) := fun q => (hal.resolve_right (fun r => q r.1)).2
          refine lv_aload_n (pc := 28) hx hb dX12_gossips_28 rfl (lv_at hl 0 rfl) ?_
          refine r_get X hW 0 ciX12 46 rfl (by decide) m_1273 rfl rfl dX12_gossips_29 ?_
          refine lv_iload (pc := 32) hx hb dX12_gossips_32 (lv_at hl 4 rfl) ?_
          refine lv_iload (pc := 34) hx hb dX12_gossips_34 (lv_at hl 6 rfl) ?_
          refine lv_iadd (pc := 36) hx hb dX12_gossips_36 ?_
          refine lv_topi (fun uv8 euv8 => ?_)
          obtain rfl : uv8 = nI (7 * dn + k) := euv8.trans (nI_add _ _)
          refine r_iald X hW 6 rfl (vp_in_nI (by omega) (by decide)) dX12_gossips_37 ?_
          refine lv_topi (fun uv9 euv9 => ?_)
          obtain rfl : uv9 = G (7 * dn + k) := euv9.trans (by rw [nI_clamp (by omega)])
          refine lv_aload_n (pc := 38) hx hb dX12_gossips_38 rfl (lv_at hl 0 rfl) ?_
          refine lv_iload_n (pc := 39) hx hb dX12_gossips_39 rfl (lv_at hl 1 rfl) ?_
          refine c_Vi (pc := 40) (As := [.int (nI v)]) (rest := [.int (G (7 * dn + k))]) (wr := [(b7, .inl (g.2.1 1, 11, .inl Lc)), (b12, .inl (g.2.1 1, 132, .inl La)), (b13, .inl (g.2.1 1, 132, .inl Lb)), (b48, .inl (g.2.1 3, 12, .inl lw)), (b46, .inl (g.2.1 1, 112, .inl G)), (b47, .inl (g.2.1 1, 16, .inl gr0))]) X hW 0 ciX12 rfl (C_X12_everybodyG l g h0 b1 b6 b7 b8 b9 b10 b11 b12 b13 b14 b15 b16 b17 b21 b22 b23 b24 b25 b26 b28 b29 b30 b31 b32 b33 b34 b35 b36 b46 b47 b48 b49 b50 b51 b52 b53 b54 b55 b56 b57 b58 b59 b60 b61 b62 b63 i0 i2 i3 i4 i5 i18 i19 i20 i27 i37 i38 i39 i40 i41 i42 i43 i44 i45 P v (by omega)) vX12_274 [0, 1] [2, 3, 4, 5, 6, 7] rfl rfl rfl rfl rfl rfl hl.1 rfl (Nat.le_of_ble_eq_true rfl) ⟨Nat.le_of_ble_eq_true rfl, Nat.le_of_ble_eq_true rfl⟩ ⟨Nat.le_of_ble_eq_true rfl, Nat.le_of_ble_eq_true rfl⟩ dX12_gossips_40 (fun r10 u9 H locs hq hW => ?_)
          obtain ⟨rfl, rfl⟩ := hq
          have hW : WD g A s _ _ [(b7, .inl (g.2.1 1, 11, .inl Lc)), (b12, .inl (g.2.1 1, 132, .inl La)), (b13, .inl (g.2.1 1, 132, .inl Lb)), (b48, .inl (g.2.1 3, 12, .inl lw)), (b46, .inl (g.2.1 1, 112, .inl G)), (b47, .inl (g.2.1 1, 16, .inl gr0)), (h0, .inr (12, [.int i0, .ref b1, .int i2, .int i3, .int i4, .int i5, .ref b6, .ref b7, .ref b8, .ref b9, .ref b10, .ref b11, .ref b12, .ref b13, .ref b14, .ref b15, .ref b16, .ref b17, .int i18, .int i19, .int i20, .ref b21, .ref b22, .ref b23, .ref b24, .ref b25, .ref b26, .int i27, .ref b28, .ref b29, .ref b30, .ref b31, .ref b32, .ref b33, .ref b34, .ref b35, .ref b36, .int i37, .int i38, .int i39, .int i40, .int i41, .int i42, .int i43, .int i44, .int i45, .ref b46, .ref b47, .ref b48, .ref b49, .ref b50, .ref b51, .ref b52, .ref b53, .ref b54, .ref b55, .ref b56, .ref b57, .ref b58, .ref b59, .ref b60, .ref b61, .ref b62, .ref b63])), (b6, .inl (g.2.1 1, 11, .inl P))] := hW
          refine lv_icmp_ne (tgt := 50) (pc := 43) hx hb dX12_gossips_43 rfl (fun c11 => ?_) (fun c11 => ?_)
          · refine lv_iconst (v := 0) (pc := 50) hx hb dX12_gossips_50 (by decide) ?_
            refine lv_istore (lv' := [(5, .int 0), (0, .ref h0), (1, .int (nI v)), (2, .int (nI dn)), (3, .int 0), (4, .int (nI (7 * dn))), (6, .int (nI k))]) (pc := 51) hx hb dX12_gossips_51 hl (by decide) rfl (fun ls hl => ?_)
            refine lv_iinc (v := nI (k + 1)) (lv' := [(6, .int (nI (k + 1))), (5, .int 0), (0, .ref h0), (1, .int (nI v)), (2, .int (nI dn)), (3, .int 0), (4, .int (nI (7 * dn)))]) (pc := 53) hx hb dX12_gossips_53 hl (k := 6) rfl ((nI_succ k).symm) (by decide) rfl (fun ls hl => ?_)
            refine lv_goto (tgt := 12) (pc := 56) hx hb dX12_gossips_56 rfl ?_
            have hW : WD g A s _ _ [(h0, .inr (12, [.int i0, .ref b1, .int i2, .int i3, .int i4, .int i5, .ref b6, .ref b7, .ref b8, .ref b9, .ref b10, .ref b11, .ref b12, .ref b13, .ref b14, .ref b15, .ref b16, .ref b17, .int i18, .int i19, .int i20, .ref b21, .ref b22, .ref b23, .ref b24, .ref b25, .ref b26, .int i27, .ref b28, .ref b29, .ref b30, .ref b31, .ref b32, .ref b33, .ref b34, .ref b35, .ref b36, .int i37, .int i38, .int i39, .int i40, .int i41, .int i42, .int i43, .int i44, .int i45, .ref b46, .ref b47, .ref b48, .ref b49, .ref b50, .ref b51, .ref b52, .ref b53, .ref b54, .ref b55, .ref b56, .ref b57, .ref b58, .ref b59, .ref b60, .ref b61, .ref b62, .ref b63])), (b6, .inl (g.2.1 1, 11, .inl P)), (b7, .inl (g.2.1 1, 11, .inl Lc)), (b12, .inl (g.2.1 1, 132, .inl La)), (b13, .inl (g.2.1 1, 132, .inl Lb)), (b48, .inl (g.2.1 3, 12, .inl lw)), (b46, .inl (g.2.1 1, 112, .inl G)), (b47, .inl (g.2.1 1, 16, .inl gr0))] := hW.pick [6, 7, 0, 1, 2, 3, 4, 5] rfl rfl
            exact ih1 (k + 1) 0 (by omega) (by omega) (Or.inr ⟨rfl, (fun q => c11 (by have := q k hkl; rw [hP]; exact this))⟩) _ _ _ hW (lv_sub hl [2, 3, 4, 5, 6, 1, 0] rfl)
          · refine lv_iconst (v := 1) (pc := 46) hx hb dX12_gossips_46 (by decide) ?_
            refine lv_goto (tgt := 51) (pc := 47) hx hb dX12_gossips_47 rfl ?_
            refine lv_istore (lv' := [(5, .int 1), (0, .ref h0), (1, .int (nI v)), (2, .int (nI dn)), (3, .int 0), (4, .int (nI (7 * dn))), (6, .int (nI k))]) (pc := 51) hx hb dX12_gossips_51 hl (by decide) rfl (fun ls hl => ?_)
            refine lv_iinc (v := nI (k + 1)) (lv' := [(6, .int (nI (k + 1))), (5, .int 1), (0, .ref h0), (1, .int (nI v)), (2, .int (nI dn)), (3, .int 0), (4, .int (nI (7 * dn)))]) (pc := 53) hx hb dX12_gossips_53 hl (k := 6) rfl ((nI_succ k).symm) (by decide) rfl (fun ls hl => ?_)
            refine lv_goto (tgt := 12) (pc := 56) hx hb dX12_gossips_56 rfl ?_
            have hW : WD g A s _ _ [(h0, .inr (12, [.int i0, .ref b1, .int i2, .int i3, .int i4, .int i5, .ref b6, .ref b7, .ref b8, .ref b9, .ref b10, .ref b11, .ref b12, .ref b13, .ref b14, .ref b15, .ref b16, .ref b17, .int i18, .int i19, .int i20, .ref b21, .ref b22, .ref b23, .ref b24, .ref b25, .ref b26, .int i27, .ref b28, .ref b29, .ref b30, .ref b31, .ref b32, .ref b33, .ref b34, .ref b35, .ref b36, .int i37, .int i38, .int i39, .int i40, .int i41, .int i42, .int i43, .int i44, .int i45, .ref b46, .ref b47, .ref b48, .ref b49, .ref b50, .ref b51, .ref b52, .ref b53, .ref b54, .ref b55, .ref b56, .ref b57, .ref b58, .ref b59, .ref b60, .ref b61, .ref b62, .ref b63])), (b6, .inl (g.2.1 1, 11, .inl P)), (b7, .inl (g.2.1 1, 11, .inl Lc)), (b12, .inl (g.2.1 1, 132, .inl La)), (b13, .inl (g.2.1 1, 132, .inl Lb)), (b48, .inl (g.2.1 3, 12, .inl lw)), (b46, .inl (g.2.1 1, 112, .inl G)), (b47, .inl (g.2.1 1, 16, .inl gr0))] := hW.pick [6, 7, 0, 1, 2, 3, 4, 5] rfl rfl
            exact ih1 (k + 1) 1 (by omega) (by omega) (Or.inl ⟨rfl, gall_s (p := pp) (hal1 hal9) (by show G (7 * dn + k) = _; rw [c11, hP])⟩) _ _ _ hW (lv_sub hl [2, 3, 4, 5, 6, 1, 0] rfl)
  exact loop1 (pp + 1) 0 1 (by omega) (Nat.zero_le _) (Or.inl ⟨rfl, fun o ho => absurd ho (Nat.not_lt_zero o)⟩) _ _ _ hW (lv_sub hl [3, 4, 5, 6, 2, 1, 0] rfl)

set_option maxHeartbeats 40000000 in
set_option maxRecDepth 100000 in
theorem C_X12_gossips_1 (l : Launch) (g : GG) (h0 b1 b6 b7 b8 b9 b10 b11 b12 b13 b14 b15 b16 b17 b21 b22 b23 b24 b25 b26 b28 b29 b30 b31 b32 b33 b34 b35 b36 b46 b47 b48 b49 b50 b51 b52 b53 b54 b55 b56 b57 b58 b59 b60 b61 b62 b63 : Nat) (i0 i2 i3 i4 i5 i18 i19 i20 i27 i37 i38 i39 i40 i41 i42 i43 i44 i45 : Int32) (P Lc La Lb lw G gr0 : Nat → Int32) (v lc pp dn : Nat) (hv : v ≤ 10) (hlc : lc ≤ 12) (hpp : pp ≤ 7) (hP : P v = nI pp) (hLc : Lc v = nI lc) (hLA : in6 La) (hLB : in6 Lb) (hg0 : gb16 gr0) (hdn : dn + 1 ≤ 15) : MetI l g yX12_gossips cX12_gossips 10 (some .boolean) 2 0 0 [.ref h0, .int (nI v), .int (nI dn), .int 1] [(h0, .inr (12, [.int i0, .ref b1, .int i2, .int i3, .int i4, .int i5, .ref b6, .ref b7, .ref b8, .ref b9, .ref b10, .ref b11, .ref b12, .ref b13, .ref b14, .ref b15, .ref b16, .ref b17, .int i18, .int i19, .int i20, .ref b21, .ref b22, .ref b23, .ref b24, .ref b25, .ref b26, .int i27, .ref b28, .ref b29, .ref b30, .ref b31, .ref b32, .ref b33, .ref b34, .ref b35, .ref b36, .int i37, .int i38, .int i39, .int i40, .int i41, .int i42, .int i43, .int i44, .int i45, .ref b46, .ref b47, .ref b48, .ref b49, .ref b50, .ref b51, .ref b52, .ref b53, .ref b54, .ref b55, .ref b56, .ref b57, .ref b58, .ref b59, .ref b60, .ref b61, .ref b62, .ref b63])), (b6, .inl (g.2.1 1, 11, .inl P)), (b7, .inl (g.2.1 1, 11, .inl Lc)), (b12, .inl (g.2.1 1, 132, .inl La)), (b13, .inl (g.2.1 1, 132, .inl Lb)), (b48, .inl (g.2.1 3, 12, .inl lw)), (b46, .inl (g.2.1 1, 112, .inl G)), (b47, .inl (g.2.1 1, 16, .inl gr0))] (fun r u => ∃ G' gr' : Nat → Int32, (r = 0 ∨ r = 1) ∧ (gok (gV La Lb lw v lc) pp (evy (nI pp)) 1 (rwt G dn) → r = 1) ∧ (∀ x : Nat, x < 7 * (dn + 1) → G' x = G x) ∧ gb16 gr' ∧ u = [(h0, .inr (12, [.int i0, .ref b1, .int i2, .int i3, .int i4, .int i5, .ref b6, .ref b7, .ref b8, .ref b9, .ref b10, .ref b11, .ref b12, .ref b13, .ref b14, .ref b15, .ref b16, .ref b17, .int i18, .int i19, .int i20, .ref b21, .ref b22, .ref b23, .ref b24, .ref b25, .ref b26, .int i27, .ref b28, .ref b29, .ref b30, .ref b31, .ref b32, .ref b33, .ref b34, .ref b35, .ref b36, .int i37, .int i38, .int i39, .int i40, .int i41, .int i42, .int i43, .int i44, .int i45, .ref b46, .ref b47, .ref b48, .ref b49, .ref b50, .ref b51, .ref b52, .ref b53, .ref b54, .ref b55, .ref b56, .ref b57, .ref b58, .ref b59, .ref b60, .ref b61, .ref b62, .ref b63])), (b6, .inl (g.2.1 1, 11, .inl P)), (b7, .inl (g.2.1 1, 11, .inl Lc)), (b12, .inl (g.2.1 1, 132, .inl La)), (b13, .inl (g.2.1 1, 132, .inl Lb)), (b48, .inl (g.2.1 3, 12, .inl lw)), (b46, .inl (g.2.1 1, 112, .inl G')), (b47, .inl (g.2.1 1, 16, .inl gr'))]) := by
  refine MetI.of (own := RX12) rfl (by decide) (Nat.le_of_ble_eq_true rfl) ?_
  intro p e s m below meth c A ls args Q hQ X hr hin hW hl
  have hx := X.1
  have hb := X.2.1
  have hl : lv_has ls 10 [(0, .ref h0), (1, .int (nI v)), (2, .int (nI dn)), (3, .int 1)] := hl
  refine lv_bipush (v := 7) (pc := 0) hx hb dX12_gossips_0 (by decide) ?_
  refine lv_iload_n (pc := 2) hx hb dX12_gossips_2 rfl (lv_at hl 2 rfl) ?_
  refine lv_imul (pc := 3) hx hb dX12_gossips_3 ?_
  refine lv_topi (fun uv1 euv1 => ?_)
  obtain rfl : uv1 = nI (7 * dn) := euv1.trans (pk_mul _ _)
  refine lv_istore (lv' := [(4, .int (nI (7 * dn))), (0, .ref h0), (1, .int (nI v)), (2, .int (nI dn)), (3, .int 1)]) (pc := 4) hx hb dX12_gossips_4 hl (by decide) rfl (fun ls hl => ?_)
  refine lv_iconst (v := 1) (pc := 6) hx hb dX12_gossips_6 (by decide) ?_
  refine lv_istore (lv' := [(5, .int 1), (4, .int (nI (7 * dn))), (0, .ref h0), (1, .int (nI v)), (2, .int (nI dn)), (3, .int 1)]) (pc := 7) hx hb dX12_gossips_7 hl (by decide) rfl (fun ls hl => ?_)
  refine lv_iconst (v := 0) (pc := 9) hx hb dX12_gossips_9 (by decide) ?_
  refine lv_istore (lv' := [(6, .int 0), (5, .int 1), (4, .int (nI (7 * dn))), (0, .ref h0), (1, .int (nI v)), (2, .int (nI dn)), (3, .int 1)]) (pc := 10) hx hb dX12_gossips_10 hl (by decide) rfl (fun ls hl => ?_)
  have loop1 : ∀ (fu : Nat) (k : Nat) (al : Int32), (pp < fu + k) → (k ≤ pp) → ((al = 1 ∧ ∀ o : Nat, o < k → (rwt G dn) o = evy (nI pp)) ∨ (al = 0 ∧ ¬ gall pp (evy (nI pp)) (rwt G dn))) → ∀ (H : Heap) (locs : List Loc) (ls : Array Slot), WD g A s H locs [(h0, .inr (12, [.int i0, .ref b1, .int i2, .int i3, .int i4, .int i5, .ref b6, .ref b7, .ref b8, .ref b9, .ref b10, .ref b11, .ref b12, .ref b13, .ref b14, .ref b15, .ref b16, .ref b17, .int i18, .int i19, .int i20, .ref b21, .ref b22, .ref b23, .ref b24, .ref b25, .ref b26, .int i27, .ref b28, .ref b29, .ref b30, .ref b31, .ref b32, .ref b33, .ref b34, .ref b35, .ref b36, .int i37, .int i38, .int i39, .int i40, .int i41, .int i42, .int i43, .int i44, .int i45, .ref b46, .ref b47, .ref b48, .ref b49, .ref b50, .ref b51, .ref b52, .ref b53, .ref b54, .ref b55, .ref b56, .ref b57, .ref b58, .ref b59, .ref b60, .ref b61, .ref b62, .ref b63])), (b6, .inl (g.2.1 1, 11, .inl P)), (b7, .inl (g.2.1 1, 11, .inl Lc)), (b12, .inl (g.2.1 1, 132, .inl La)), (b13, .inl (g.2.1 1, 132, .inl Lb)), (b48, .inl (g.2.1 3, 12, .inl lw)), (b46, .inl (g.2.1 1, 112, .inl G)), (b47, .inl (g.2.1 1, 16, .inl gr0))] → lv_has ls 10 [(0, .ref h0), (1, .int (nI v)), (2, .int (nI dn)), (3, .int 1), (4, .int (nI (7 * dn))), (5, .int al), (6, .int (nI k))] → W p l e (RM 2 0 0) s m args below meth c H locs 0 0 Q (F0 m 12 ls []) := by
    intro fu
    induction fu with
    | zero =>
      intro k al hm hk hal
      exact absurd hm (by omega)
    | succ fu ih1 =>
      intro k al hm hk hal H locs ls hW hl
      refine lv_iload (pc := 12) hx hb dX12_gossips_12 (lv_at hl 6 rfl) ?_
      refine lv_aload_n (pc := 14) hx hb dX12_gossips_14 rfl (lv_at hl 0 rfl) ?_
      refine r_get X hW 0 ciX12 6 rfl (by decide) m_1237 rfl rfl dX12_gossips_15 ?_
      refine lv_iload_n (pc := 18) hx hb dX12_gossips_18 rfl (lv_at hl 1 rfl) ?_
      refine r_iald X hW 1 rfl (vp_in_nI (by omega) (by decide)) dX12_gossips_19 ?_
      refine lv_topi (fun uv2 euv2 => ?_)
      obtain rfl : uv2 = nI pp := euv2.trans (by rw [nI_clamp (by omega)]; exact hP)
      refine lv_icmp_ge (tgt := 59) (pc := 20) hx hb dX12_gossips_20 rfl (fun c3 => ?_) (fun c3 => ?_)
      · have hkp : k = pp := Nat.le_antisymm hk (ge_t (by omega) (by omega) c3)
        rw [hkp] at hal
        rcases hal with ⟨ha1, hal⟩ | ⟨ha1, hal⟩
        · subst ha1
          refine lv_iload (pc := 59) hx hb dX12_gossips_59 (lv_at hl 5 rfl) ?_
          refine lv_if_ne (tgt := 68) (pc := 61) hx hb dX12_gossips_61 rfl (fun c4 => ?_) (fun c4 => absurd c4 (by decide))
          refine lv_iload (pc := 68) hx hb dX12_gossips_68 (lv_at hl 5 rfl) ?_
          exact e_z X hQ hr hW (u := [(h0, .inr (12, [.int i0, .ref b1, .int i2, .int i3, .int i4, .int i5, .ref b6, .ref b7, .ref b8, .ref b9, .ref b10, .ref b11, .ref b12, .ref b13, .ref b14, .ref b15, .ref b16, .ref b17, .int i18, .int i19, .int i20, .ref b21, .ref b22, .ref b23, .ref b24, .ref b25, .ref b26, .int i27, .ref b28, .ref b29, .ref b30, .ref b31, .ref b32, .ref b33, .ref b34, .ref b35, .ref b36, .int i37, .int i38, .int i39, .int i40, .int i41, .int i42, .int i43, .int i44, .int i45, .ref b46, .ref b47, .ref b48, .ref b49, .ref b50, .ref b51, .ref b52, .ref b53, .ref b54, .ref b55, .ref b56, .ref b57, .ref b58, .ref b59, .ref b60, .ref b61, .ref b62, .ref b63])), (b6, .inl (g.2.1 1, 11, .inl P)), (b7, .inl (g.2.1 1, 11, .inl Lc)), (b12, .inl (g.2.1 1, 132, .inl La)), (b13, .inl (g.2.1 1, 132, .inl Lb)), (b48, .inl (g.2.1 3, 12, .inl lw)), (b46, .inl (g.2.1 1, 112, .inl G)), (b47, .inl (g.2.1 1, 16, .inl gr0))]) rfl [0, 1, 2, 3, 4, 5, 6, 7] rfl rfl (⟨_, _, Or.inr rfl, fun _ => rfl, fun x hx => rfl, hg0, rfl⟩) ⟨Nat.le_of_ble_eq_true rfl, Nat.le_of_ble_eq_true rfl⟩ dX12_gossips_70
        · subst ha1
          refine lv_iload (pc := 59) hx hb dX12_gossips_59 (lv_at hl 5 rfl) ?_
          refine lv_if_ne (tgt := 68) (pc := 61) hx hb dX12_gossips_61 rfl (fun c5 => absurd (by decide) c5) (fun c5 => ?_)
          refine lv_iload_n (pc := 64) hx hb dX12_gossips_64 rfl (lv_at hl 3 rfl) ?_
          refine lv_if_ne (tgt := 71) (pc := 65) hx hb dX12_gossips_65 rfl (fun c6 => ?_) (fun c6 => absurd c6 (by decide))
          refine lv_iconst (v := 0) (pc := 71) hx hb dX12_gossips_71 (by decide) ?_
          refine lv_istore (lv' := [(6, .int 0), (0, .ref h0), (1, .int (nI v)), (2, .int (nI dn)), (3, .int 1), (4, .int (nI (7 * dn))), (5, .int 0)]) (pc := 72) hx hb dX12_gossips_72 hl (by decide) rfl (fun ls hl => ?_)
          have hW : WD g A s _ _ [(h0, .inr (12, [.int i0, .ref b1, .int i2, .int i3, .int i4, .int i5, .ref b6, .ref b7, .ref b8, .ref b9, .ref b10, .ref b11, .ref b12, .ref b13, .ref b14, .ref b15, .ref b16, .ref b17, .int i18, .int i19, .int i20, .ref b21, .ref b22, .ref b23, .ref b24, .ref b25, .ref b26, .int i27, .ref b28, .ref b29, .ref b30, .ref b31, .ref b32, .ref b33, .ref b34, .ref b35, .ref b36, .int i37, .int i38, .int i39, .int i40, .int i41, .int i42, .int i43, .int i44, .int i45, .ref b46, .ref b47, .ref b48, .ref b49, .ref b50, .ref b51, .ref b52, .ref b53, .ref b54, .ref b55, .ref b56, .ref b57, .ref b58, .ref b59, .ref b60, .ref b61, .ref b62, .ref b63])), (b6, .inl (g.2.1 1, 11, .inl P)), (b7, .inl (g.2.1 1, 11, .inl Lc)), (b12, .inl (g.2.1 1, 132, .inl La)), (b13, .inl (g.2.1 1, 132, .inl Lb)), (b48, .inl (g.2.1 3, 12, .inl lw)), (b46, .inl (g.2.1 1, 112, .inl G)), (b47, .inl (g.2.1 1, 16, .inl gr0))] := hW.pick [0, 1, 2, 3, 4, 5, 6, 7] rfl rfl
          have loop2 : ∀ (fv : Nat) (i : Nat) (G2 : Nat → Int32) (gr : Nat → Int32), (lc < fv + i) → (i ≤ lc) → (∀ x : Nat, x < 7 * (dn + 1) → G2 x = G x) → (gb16 gr) → (gno La Lb lw v lc pp (evy (nI pp)) 0 (rwt G dn) i) → ∀ (H : Heap) (locs : List Loc) (ls : Array Slot), WD g A s H locs [(h0, .inr (12, [.int i0, .ref b1, .int i2, .int i3, .int i4, .int i5, .ref b6, .ref b7, .ref b8, .ref b9, .ref b10, .ref b11, .ref b12, .ref b13, .ref b14, .ref b15, .ref b16, .ref b17, .int i18, .int i19, .int i20, .ref b21, .ref b22, .ref b23, .ref b24, .ref b25, .ref b26, .int i27, .ref b28, .ref b29, .ref b30, .ref b31, .ref b32, .ref b33, .ref b34, .ref b35, .ref b36, .int i37, .int i38, .int i39, .int i40, .int i41, .int i42, .int i43, .int i44, .int i45, .ref b46, .ref b47, .ref b48, .ref b49, .ref b50, .ref b51, .ref b52, .ref b53, .ref b54, .ref b55, .ref b56, .ref b57, .ref b58, .ref b59, .ref b60, .ref b61, .ref b62, .ref b63])), (b6, .inl (g.2.1 1, 11, .inl P)), (b7, .inl (g.2.1 1, 11, .inl Lc)), (b12, .inl (g.2.1 1, 132, .inl La)), (b13, .inl (g.2.1 1, 132, .inl Lb)), (b48, .inl (g.2.1 3, 12, .inl lw)), (b46, .inl (g.2.1 1, 112, .inl G2)), (b47, .inl (g.2.1 1, 16, .inl gr))] → lv_has ls 10 [(0, .ref h0), (1, .int (nI v)), (2, .int (nI dn)), (3, .int 1), (4, .int (nI (7 * dn))), (5, .int 0), (6, .int (nI i))] → W p l e (RM 2 0 0) s m args below meth c H locs 0 0 Q (F0 m 74 ls []) := by
            intro fv
            induction fv with
            | zero =>
              intro i G2 gr hm2 hi hG2 hgr hno
              exact absurd hm2 (by omega)
            | succ fv ih2 =>
              intro i G2 gr hm2 hi hG2 hgr hno H locs ls hW hl
              refine lv_iload (pc := 74) hx hb dX12_gossips_74 (lv_at hl 6 rfl) ?_
              refine lv_aload_n (pc := 76) hx hb dX12_gossips_76 rfl (lv_at hl 0 rfl) ?_
              refine r_get X hW 0 ciX12 7 rfl (by decide) m_1238 rfl rfl dX12_gossips_77 ?_
              refine lv_iload_n (pc := 80) hx hb dX12_gossips_80 rfl (lv_at hl 1 rfl) ?_
              refine r_iald X hW 2 rfl (vp_in_nI (by omega) (by decide)) dX12_gossips_81 ?_
              refine lv_topi (fun uv7 euv7 => ?_)
              obtain rfl : uv7 = nI lc := euv7.trans (by rw [nI_clamp (by omega)]; exact hLc)
              refine lv_icmp_ge (tgt := 282) (pc := 82) hx hb dX12_gossips_82 rfl (fun c8 => ?_) (fun c8 => ?_)
              · have hie : i = lc := Nat.le_antisymm hi (ge_t (by omega) (by omega) c8)
                refine lv_iconst (v := 0) (pc := 282) hx hb dX12_gossips_282 (by decide) ?_
                exact e_z X hQ hr hW (u := [(h0, .inr (12, [.int i0, .ref b1, .int i2, .int i3, .int i4, .int i5, .ref b6, .ref b7, .ref b8, .ref b9, .ref b10, .ref b11, .ref b12, .ref b13, .ref b14, .ref b15, .ref b16, .ref b17, .int i18, .int i19, .int i20, .ref b21, .ref b22, .ref b23, .ref b24, .ref b25, .ref b26, .int i27, .ref b28, .ref b29, .ref b30, .ref b31, .ref b32, .ref b33, .ref b34, .ref b35, .ref b36, .int i37, .int i38, .int i39, .int i40, .int i41, .int i42, .int i43, .int i44, .int i45, .ref b46, .ref b47, .ref b48, .ref b49, .ref b50, .ref b51, .ref b52, .ref b53, .ref b54, .ref b55, .ref b56, .ref b57, .ref b58, .ref b59, .ref b60, .ref b61, .ref b62, .ref b63])), (b6, .inl (g.2.1 1, 11, .inl P)), (b7, .inl (g.2.1 1, 11, .inl Lc)), (b12, .inl (g.2.1 1, 132, .inl La)), (b13, .inl (g.2.1 1, 132, .inl Lb)), (b48, .inl (g.2.1 3, 12, .inl lw)), (b46, .inl (g.2.1 1, 112, .inl G2)), (b47, .inl (g.2.1 1, 16, .inl gr))]) rfl [0, 1, 2, 3, 4, 5, 6, 7] rfl rfl (⟨_, _, Or.inl rfl, fun q => absurd q (gno_end hno hie hal), hG2, hgr, rfl⟩) ⟨Nat.le_of_ble_eq_true rfl, Nat.le_of_ble_eq_true rfl⟩ dX12_gossips_283
              · have hil : i < lc := ge_f (by omega) (by omega) c8
                obtain ⟨ea, hea, eA⟩ := hLA (12 * v + i) (by omega)
                obtain ⟨eb, heb, eB⟩ := hLB (12 * v + i) (by omega)
                refine lv_bipush (v := 12) (pc := 85) hx hb dX12_gossips_85 (by decide) ?_
                refine lv_iload_n (pc := 87) hx hb dX12_gossips_87 rfl (lv_at hl 1 rfl) ?_
                refine lv_imul (pc := 88) hx hb dX12_gossips_88 ?_
                refine lv_topi (fun uv9 euv9 => ?_)
                obtain rfl : uv9 = nI (12 * v) := euv9.trans (pk_mul _ _)
                refine lv_iload (pc := 89) hx hb dX12_gossips_89 (lv_at hl 6 rfl) ?_
                refine lv_iadd (pc := 91) hx hb dX12_gossips_91 ?_
                refine lv_topi (fun uv10 euv10 => ?_)
                obtain rfl : uv10 = nI (12 * v + i) := euv10.trans (nI_add _ _)
                refine lv_istore (lv' := [(7, .int (nI (12 * v + i))), (0, .ref h0), (1, .int (nI v)), (2, .int (nI dn)), (3, .int 1), (4, .int (nI (7 * dn))), (5, .int 0), (6, .int (nI i))]) (pc := 92) hx hb dX12_gossips_92 hl (by decide) rfl (fun ls hl => ?_)
                refine lv_aload_n (pc := 94) hx hb dX12_gossips_94 rfl (lv_at hl 1 rfl) ?_
                refine r_get X hW 0 ciX12 46 rfl (by decide) m_1273 rfl rfl dX12_gossips_95 ?_
                refine lv_iload (pc := 98) hx hb dX12_gossips_98 (lv_at hl 5 rfl) ?_
                refine lv_aload_n (pc := 100) hx hb dX12_gossips_100 rfl (lv_at hl 1 rfl) ?_
                refine r_get X hW 0 ciX12 12 rfl (by decide) m_1243 rfl rfl dX12_gossips_101 ?_
                refine lv_iload (pc := 104) hx hb dX12_gossips_104 (lv_at hl 0 rfl) ?_
                refine r_iald X hW 3 rfl (vp_in_nI (by omega) (by decide)) dX12_gossips_106 ?_
                refine lv_topi (fun uv11 euv11 => ?_)
                obtain rfl : uv11 = nI ea := euv11.trans (by rw [nI_clamp (by omega)]; exact eA)
                refine lv_iadd (pc := 107) hx hb dX12_gossips_107 ?_
                refine lv_topi (fun uv12 euv12 => ?_)
                obtain rfl : uv12 = nI (7 * dn + ea) := euv12.trans (nI_add _ _)
                refine r_iald X hW 6 rfl (vp_in_nI (by omega) (by decide)) dX12_gossips_108 ?_
                refine lv_topi (fun uv13 euv13 => ?_)
                obtain rfl : uv13 = G (7 * dn + ea) := euv13.trans (by rw [nI_clamp (by omega)]; exact hG2 _ (by omega))
                refine lv_aload_n (pc := 109) hx hb dX12_gossips_109 rfl (lv_at hl 1 rfl) ?_
                refine r_get X hW 0 ciX12 46 rfl (by decide) m_1273 rfl rfl dX12_gossips_110 ?_
                refine lv_iload (pc := 113) hx hb dX12_gossips_113 (lv_at hl 5 rfl) ?_
                refine lv_aload_n (pc := 115) hx hb dX12_gossips_115 rfl (lv_at hl 1 rfl) ?_
                refine r_get X hW 0 ciX12 13 rfl (by decide) m_1244 rfl rfl dX12_gossips_116 ?_
                refine lv_iload (pc := 119) hx hb dX12_gossips_119 (lv_at hl 0 rfl) ?_
                refine r_iald X hW 4 rfl (vp_in_nI (by omega) (by decide)) dX12_gossips_121 ?_
                refine lv_topi (fun uv14 euv14 => ?_)
                obtain rfl : uv14 = nI eb := euv14.trans (by rw [nI_clamp (by omega)]; exact eB)
                refine lv_iadd (pc := 122) hx hb dX12_gossips_122 ?_
                refine lv_topi (fun uv15 euv15 => ?_)
                obtain rfl : uv15 = nI (7 * dn + eb) := euv15.trans (nI_add _ _)
                refine r_iald X hW 6 rfl (vp_in_nI (by omega) (by decide)) dX12_gossips_123 ?_
                refine lv_topi (fun uv16 euv16 => ?_)
                obtain rfl : uv16 = G (7 * dn + eb) := euv16.trans (by rw [nI_clamp (by omega)]; exact hG2 _ (by omega))
                refine lv_ior (pc := 124) hx hb dX12_gossips_124 ?_
                refine lv_topi (fun uv17 euv17 => ?_)
                obtain rfl : uv17 = G (7 * dn + ea) ||| G (7 * dn + eb) := euv17.trans (rfl)
                refine lv_istore (lv' := [(8, .int (G (7 * dn + ea) ||| G (7 * dn + eb))), (7, .int (nI (12 * v + i))), (0, .ref h0), (1, .int (nI v)), (2, .int (nI dn)), (3, .int 1), (4, .int (nI (7 * dn))), (5, .int 0), (6, .int (nI i))]) (pc := 125) hx hb dX12_gossips_125 hl (by decide) rfl (fun ls hl => ?_)
                refine lv_aload_n (pc := 127) hx hb dX12_gossips_127 rfl (lv_at hl 2 rfl) ?_
                refine r_get X hW 0 ciX12 48 rfl (by decide) m_1275 rfl rfl dX12_gossips_128 ?_
                refine lv_iload (pc := 131) hx hb dX12_gossips_131 (lv_at hl 8 rfl) ?_
                refine r_zald X hW 5 rfl (vp_in_nI (by omega) (by decide)) dX12_gossips_133 ?_
                refine lv_topi (fun uv18 euv18 => ?_)
                obtain rfl : uv18 = lw i := euv18.trans (by rw [nI_clamp (by omega)])
                refine lv_if_eq (tgt := 276) (pc := 134) hx hb dX12_gossips_134 rfl (fun c19 => ?_) (fun c19 => ?_)
                · refine lv_iinc (v := nI (i + 1)) (lv' := [(6, .int (nI (i + 1))), (8, .int (G (7 * dn + ea) ||| G (7 * dn + eb))), (7, .int (nI (12 * v + i))), (0, .ref h0), (1, .int (nI v)), (2, .int (nI dn)), (3, .int 1), (4, .int (nI (7 * dn))), (5, .int 0)]) (pc := 276) hx hb dX12_gossips_276 hl (k := 8) rfl ((nI_succ i).symm) (by decide) rfl (fun ls hl => ?_)
                  refine lv_goto (tgt := 74) (pc := 279) hx hb dX12_gossips_279 rfl ?_
                  have hW : WD g A s _ _ [(h0, .inr (12, [.int i0, .ref b1, .int i2, .int i3, .int i4, .int i5, .ref b6, .ref b7, .ref b8, .ref b9, .ref b10, .ref b11, .ref b12, .ref b13, .ref b14, .ref b15, .ref b16, .ref b17, .int i18, .int i19, .int i20, .ref b21, .ref b22, .ref b23, .ref b24, .ref b25, .ref b26, .int i27, .ref b28, .ref b29, .ref b30, .ref b31, .ref b32, .ref b33, .ref b34, .ref b35, .ref b36, .int i37, .int i38, .int i39, .int i40, .int i41, .int i42, .int i43, .int i44, .int i45, .ref b46, .ref b47, .ref b48, .ref b49, .ref b50, .ref b51, .ref b52, .ref b53, .ref b54, .ref b55, .ref b56, .ref b57, .ref b58, .ref b59, .ref b60, .ref b61, .ref b62, .ref b63])), (b6, .inl (g.2.1 1, 11, .inl P)), (b7, .inl (g.2.1 1, 11, .inl Lc)), (b12, .inl (g.2.1 1, 132, .inl La)), (b13, .inl (g.2.1 1, 132, .inl Lb)), (b48, .inl (g.2.1 3, 12, .inl lw)), (b46, .inl (g.2.1 1, 112, .inl G2)), (b47, .inl (g.2.1 1, 16, .inl gr))] := hW.pick [0, 1, 2, 3, 4, 5, 6, 7] rfl rfl
                  exact ih2 (i + 1) G2 gr (by omega) (by omega) (hG2) hgr (gno_s hno (by omega) hea heb eA eB (fun ha9 hb9 hw9 hu9 => absurd c19 hw9)) _ _ _ hW (lv_sub hl [3, 4, 5, 6, 7, 8, 0] rfl)
                · have hw_i := c19
                  refine lv_aload_n (pc := 137) hx hb dX12_gossips_137 rfl (lv_at hl 2 rfl) ?_
                  refine r_get X hW 0 ciX12 46 rfl (by decide) m_1273 rfl rfl dX12_gossips_138 ?_
                  refine lv_iload (pc := 141) hx hb dX12_gossips_141 (lv_at hl 6 rfl) ?_
                  refine lv_aload_n (pc := 143) hx hb dX12_gossips_143 rfl (lv_at hl 2 rfl) ?_
                  refine r_get X hW 0 ciX12 12 rfl (by decide) m_1243 rfl rfl dX12_gossips_144 ?_
                  refine lv_iload (pc := 147) hx hb dX12_gossips_147 (lv_at hl 1 rfl) ?_
                  refine r_iald X hW 3 rfl (vp_in_nI (by omega) (by decide)) dX12_gossips_149 ?_
                  refine lv_topi (fun uv20 euv20 => ?_)
                  obtain rfl : uv20 = nI ea := euv20.trans (by rw [nI_clamp (by omega)]; exact eA)
                  refine lv_iadd (pc := 150) hx hb dX12_gossips_150 ?_
                  refine lv_topi (fun uv21 euv21 => ?_)
                  obtain rfl : uv21 = nI (7 * dn + ea) := euv21.trans (nI_add _ _)
                  refine r_iald X hW 6 rfl (vp_in_nI (by omega) (by decide)) dX12_gossips_151 ?_
                  refine lv_topi (fun uv22 euv22 => ?_)
                  obtain rfl : uv22 = G (7 * dn + ea) := euv22.trans (by rw [nI_clamp (by omega)]; exact hG2 _ (by omega))
                  refine lv_iload (pc := 152) hx hb dX12_gossips_152 (lv_at hl 0 rfl) ?_
                  refine lv_icmp_ne (tgt := 180) (pc := 154) hx hb dX12_gossips_154 rfl (fun c23 => ?_) (fun c23 => ?_)
                  · refine lv_iconst (v := 0) (pc := 180) hx hb dX12_gossips_180 (by decide) ?_
                    refine lv_istore (lv' := [(9, .int 0), (8, .int (G (7 * dn + ea) ||| G (7 * dn + eb))), (7, .int (nI (12 * v + i))), (0, .ref h0), (1, .int (nI v)), (2, .int (nI dn)), (3, .int 1), (4, .int (nI (7 * dn))), (5, .int 0), (6, .int (nI i))]) (pc := 181) hx hb dX12_gossips_181 hl (by decide) rfl (fun ls hl => ?_)
                    have loop3 : ∀ (fx : Nat) (y : Nat) (G3 : Nat → Int32), (pp < fx + y) → (y ≤ pp) → (∀ x : Nat, x < 7 * (dn + 1) → G3 x = G x) → (∀ z : Nat, z < y → G3 (7 * dn + 7 + z) = gaft (rwt G dn) ea eb z) → ∀ (H : Heap) (locs : List Loc) (ls : Array Slot), WD g A s H locs [(h0, .inr (12, [.int i0, .ref b1, .int i2, .int i3, .int i4, .int i5, .ref b6, .ref b7, .ref b8, .ref b9, .ref b10, .ref b11, .ref b12, .ref b13, .ref b14, .ref b15, .ref b16, .ref b17, .int i18, .int i19, .int i20, .ref b21, .ref b22, .ref b23, .ref b24, .ref b25, .ref b26, .int i27, .ref b28, .ref b29, .ref b30, .ref b31, .ref b32, .ref b33, .ref b34, .ref b35, .ref b36, .int i37, .int i38, .int i39, .int i40, .int i41, .int i42, .int i43, .int i44, .int i45, .ref b46, .ref b47, .ref b48, .ref b49, .ref b50, .ref b51, .ref b52, .ref b53, .ref b54, .ref b55, .ref b56, .ref b57, .ref b58, .ref b59, .ref b60, .ref b61, .ref b62, .ref b63])), (b6, .inl (g.2.1 1, 11, .inl P)), (b7, .inl (g.2.1 1, 11, .inl Lc)), (b12, .inl (g.2.1 1, 132, .inl La)), (b13, .inl (g.2.1 1, 132, .inl Lb)), (b48, .inl (g.2.1 3, 12, .inl lw)), (b46, .inl (g.2.1 1, 112, .inl G3)), (b47, .inl (g.2.1 1, 16, .inl gr))] → lv_has ls 10 [(0, .ref h0), (1, .int (nI v)), (2, .int (nI dn)), (3, .int 1), (4, .int (nI (7 * dn))), (5, .int 0), (6, .int (nI i)), (7, .int (nI (12 * v + i))), (8, .int (G (7 * dn + ea) ||| G (7 * dn + eb))), (9, .int (nI y))] → W p l e (RM 2 0 0) s m args below meth c H locs 0 0 Q (F0 m 183 ls []) := by
                      intro fx
                      induction fx with
                      | zero =>
                        intro y G3 hm3 hy hG3 hC
                        exact absurd hm3 (by omega)
                      | succ fx ih3 =>
                        intro y G3 hm3 hy hG3 hC H locs ls hW hl
                        refine lv_iload (pc := 183) hx hb dX12_gossips_183 (lv_at hl 9 rfl) ?_
                        refine lv_aload_n (pc := 185) hx hb dX12_gossips_185 rfl (lv_at hl 0 rfl) ?_
                        refine r_get X hW 0 ciX12 6 rfl (by decide) m_1237 rfl rfl dX12_gossips_186 ?_
                        refine lv_iload_n (pc := 189) hx hb dX12_gossips_189 rfl (lv_at hl 1 rfl) ?_
                        refine r_iald X hW 1 rfl (vp_in_nI (by omega) (by decide)) dX12_gossips_190 ?_
                        refine lv_topi (fun uv24 euv24 => ?_)
                        obtain rfl : uv24 = nI pp := euv24.trans (by rw [nI_clamp (by omega)]; exact hP)
                        refine lv_icmp_ge (tgt := 252) (pc := 191) hx hb dX12_gossips_191 rfl (fun c25 => ?_) (fun c25 => ?_)
                        · have hyk : y = pp := Nat.le_antisymm hy (ge_t (by omega) (by omega) c25)
                          rw [hyk] at hC
                          refine lv_aload_n (pc := 252) hx hb dX12_gossips_252 rfl (lv_at hl 0 rfl) ?_
                          refine r_get X hW 0 ciX12 47 rfl (by decide) m_1274 rfl rfl dX12_gossips_253 ?_
                          refine lv_iload_n (pc := 256) hx hb dX12_gossips_256 rfl (lv_at hl 2 rfl) ?_
                          refine lv_iload (pc := 257) hx hb dX12_gossips_257 (lv_at hl 6 rfl) ?_
                          obtain ⟨f26, ef26⟩ : ∃ fz : Nat → Int32, upd gr (nI dn).toNatClampNeg (nI i) = fz := ⟨_, rfl⟩
                          refine r_iast (ws' := [(h0, .inr (12, [.int i0, .ref b1, .int i2, .int i3, .int i4, .int i5, .ref b6, .ref b7, .ref b8, .ref b9, .ref b10, .ref b11, .ref b12, .ref b13, .ref b14, .ref b15, .ref b16, .ref b17, .int i18, .int i19, .int i20, .ref b21, .ref b22, .ref b23, .ref b24, .ref b25, .ref b26, .int i27, .ref b28, .ref b29, .ref b30, .ref b31, .ref b32, .ref b33, .ref b34, .ref b35, .ref b36, .int i37, .int i38, .int i39, .int i40, .int i41, .int i42, .int i43, .int i44, .int i45, .ref b46, .ref b47, .ref b48, .ref b49, .ref b50, .ref b51, .ref b52, .ref b53, .ref b54, .ref b55, .ref b56, .ref b57, .ref b58, .ref b59, .ref b60, .ref b61, .ref b62, .ref b63])), (b6, .inl (g.2.1 1, 11, .inl P)), (b7, .inl (g.2.1 1, 11, .inl Lc)), (b12, .inl (g.2.1 1, 132, .inl La)), (b13, .inl (g.2.1 1, 132, .inl Lb)), (b48, .inl (g.2.1 3, 12, .inl lw)), (b46, .inl (g.2.1 1, 112, .inl G3)), (b47, .inl (g.2.1 1, 16, .inl f26))]) X hW 7 rfl (vp_in_nI (by omega) (by decide)) ef26 rfl dX12_gossips_259 (fun H locs hW => ?_)
                          have hg_f26 : gb16 f26 := by rw [← ef26]; exact gb16_upd hgr (by omega)
                          refine lv_aload_n (pc := 260) hx hb dX12_gossips_260 rfl (lv_at hl 0 rfl) ?_
                          refine lv_iload_n (pc := 261) hx hb dX12_gossips_261 rfl (lv_at hl 1 rfl) ?_
                          refine lv_iload_n (pc := 262) hx hb dX12_gossips_262 rfl (lv_at hl 2 rfl) ?_
                          refine lv_iconst (v := 1) (pc := 263) hx hb dX12_gossips_263 (by decide) ?_
                          refine lv_iadd (pc := 264) hx hb dX12_gossips_264 ?_
                          refine lv_topi (fun uv27 euv27 => ?_)
                          obtain rfl : uv27 = nI (dn + 1) := euv27.trans (nI_1 _)
                          refine lv_iload_n (pc := 265) hx hb dX12_gossips_265 rfl (lv_at hl 3 rfl) ?_
                          refine lv_iconst (v := 1) (pc := 266) hx hb dX12_gossips_266 (by decide) ?_
                          refine lv_isub (pc := 267) hx hb dX12_gossips_267 ?_
                          refine lv_topi (fun uv28 euv28 => ?_)
                          obtain rfl : uv28 = 0 := euv28.trans (by decide +kernel)
                          refine c_Vi (pc := 268) (As := [.int (nI v), .int (nI (dn + 1)), .int 0]) (rest := []) (wr := []) X hW 0 ciX12 rfl (C_X12_gossips_0 l g h0 b1 b6 b7 b8 b9 b10 b11 b12 b13 b14 b15 b16 b17 b21 b22 b23 b24 b25 b26 b28 b29 b30 b31 b32 b33 b34 b35 b36 b46 b47 b48 b49 b50 b51 b52 b53 b54 b55 b56 b57 b58 b59 b60 b61 b62 b63 i0 i2 i3 i4 i5 i18 i19 i20 i27 i37 i38 i39 i40 i41 i42 i43 i44 i45 P Lc La Lb lw G3 f26 v lc pp (dn + 1) hv hlc hpp hP hLc hLA hLB hg_f26 (by omega)) vX12_346 [0, 1, 2, 3, 4, 5, 6, 7] [] rfl rfl rfl rfl rfl rfl hl.1 rfl (Nat.le_of_ble_eq_true rfl) ⟨Nat.le_of_ble_eq_true rfl, Nat.le_of_ble_eq_true rfl⟩ ⟨Nat.le_of_ble_eq_true rfl, Nat.le_of_ble_eq_true rfl⟩ dX12_gossips_268 (fun r31 u9 H locs hq hW => ?_)
                          obtain ⟨gq29, gw30, -, hq1_gq29, hq2_gq29, hgw30, rfl⟩ := hq
                          have hW : WD g A s _ _ [(h0, .inr (12, [.int i0, .ref b1, .int i2, .int i3, .int i4, .int i5, .ref b6, .ref b7, .ref b8, .ref b9, .ref b10, .ref b11, .ref b12, .ref b13, .ref b14, .ref b15, .ref b16, .ref b17, .int i18, .int i19, .int i20, .ref b21, .ref b22, .ref b23, .ref b24, .ref b25, .ref b26, .int i27, .ref b28, .ref b29, .ref b30, .ref b31, .ref b32, .ref b33, .ref b34, .ref b35, .ref b36, .int i37, .int i38, .int i39, .int i40, .int i41, .int i42, .int i43, .int i44, .int i45, .ref b46, .ref b47, .ref b48, .ref b49, .ref b50, .ref b51, .ref b52, .ref b53, .ref b54, .ref b55, .ref b56, .ref b57, .ref b58, .ref b59, .ref b60, .ref b61, .ref b62, .ref b63])), (b6, .inl (g.2.1 1, 11, .inl P)), (b7, .inl (g.2.1 1, 11, .inl Lc)), (b12, .inl (g.2.1 1, 132, .inl La)), (b13, .inl (g.2.1 1, 132, .inl Lb)), (b48, .inl (g.2.1 3, 12, .inl lw)), (b46, .inl (g.2.1 1, 112, .inl gq29)), (b47, .inl (g.2.1 1, 16, .inl gw30))] := hW
                          refine lv_if_eq (tgt := 276) (pc := 271) hx hb dX12_gossips_271 rfl (fun c32 => ?_) (fun c32 => ?_)
                          · refine lv_iinc (v := nI (i + 1)) (lv' := [(6, .int (nI (i + 1))), (0, .ref h0), (1, .int (nI v)), (2, .int (nI dn)), (3, .int 1), (4, .int (nI (7 * dn))), (5, .int 0), (7, .int (nI (12 * v + i))), (8, .int (G (7 * dn + ea) ||| G (7 * dn + eb))), (9, .int (nI y))]) (pc := 276) hx hb dX12_gossips_276 hl (k := 6) rfl ((nI_succ i).symm) (by decide) rfl (fun ls hl => ?_)
                            refine lv_goto (tgt := 74) (pc := 279) hx hb dX12_gossips_279 rfl ?_
                            have hW : WD g A s _ _ [(h0, .inr (12, [.int i0, .ref b1, .int i2, .int i3, .int i4, .int i5, .ref b6, .ref b7, .ref b8, .ref b9, .ref b10, .ref b11, .ref b12, .ref b13, .ref b14, .ref b15, .ref b16, .ref b17, .int i18, .int i19, .int i20, .ref b21, .ref b22, .ref b23, .ref b24, .ref b25, .ref b26, .int i27, .ref b28, .ref b29, .ref b30, .ref b31, .ref b32, .ref b33, .ref b34, .ref b35, .ref b36, .int i37, .int i38, .int i39, .int i40, .int i41, .int i42, .int i43, .int i44, .int i45, .ref b46, .ref b47, .ref b48, .ref b49, .ref b50, .ref b51, .ref b52, .ref b53, .ref b54, .ref b55, .ref b56, .ref b57, .ref b58, .ref b59, .ref b60, .ref b61, .ref b62, .ref b63])), (b6, .inl (g.2.1 1, 11, .inl P)), (b7, .inl (g.2.1 1, 11, .inl Lc)), (b12, .inl (g.2.1 1, 132, .inl La)), (b13, .inl (g.2.1 1, 132, .inl Lb)), (b48, .inl (g.2.1 3, 12, .inl lw)), (b46, .inl (g.2.1 1, 112, .inl gq29)), (b47, .inl (g.2.1 1, 16, .inl gw30))] := hW.pick [0, 1, 2, 3, 4, 5, 6, 7] rfl rfl
                            exact ih2 (i + 1) gq29 gw30 (by omega) (by omega) (fun x hx => (hq2_gq29 x (by omega)).trans (hG3 x hx)) hgw30 (gno_s hno (by omega) hea heb eA eB (fun ha9 hb9 hw9 hu9 => fun hg9 => absurd (hq1_gq29 (gok_cong hg9 (fun o ho => (hC o ho).symm))) (by rw [c32]; decide))) _ _ _ hW (lv_sub hl [1, 2, 3, 4, 5, 6, 0] rfl)
                          · refine lv_iconst (v := 1) (pc := 274) hx hb dX12_gossips_274 (by decide) ?_
                            exact e_z X hQ hr hW (u := [(h0, .inr (12, [.int i0, .ref b1, .int i2, .int i3, .int i4, .int i5, .ref b6, .ref b7, .ref b8, .ref b9, .ref b10, .ref b11, .ref b12, .ref b13, .ref b14, .ref b15, .ref b16, .ref b17, .int i18, .int i19, .int i20, .ref b21, .ref b22, .ref b23, .ref b24, .ref b25, .ref b26, .int i27, .ref b28, .ref b29, .ref b30, .ref b31, .ref b32, .ref b33, .ref b34, .ref b35, .ref b36, .int i37, .int i38, .int i39, .int i40, .int i41, .int i42, .int i43, .int i44, .int i45, .ref b46, .ref b47, .ref b48, .ref b49, .ref b50, .ref b51, .ref b52, .ref b53, .ref b54, .ref b55, .ref b56, .ref b57, .ref b58, .ref b59, .ref b60, .ref b61, .ref b62, .ref b63])), (b6, .inl (g.2.1 1, 11, .inl P)), (b7, .inl (g.2.1 1, 11, .inl Lc)), (b12, .inl (g.2.1 1, 132, .inl La)), (b13, .inl (g.2.1 1, 132, .inl Lb)), (b48, .inl (g.2.1 3, 12, .inl lw)), (b46, .inl (g.2.1 1, 112, .inl gq29)), (b47, .inl (g.2.1 1, 16, .inl gw30))]) rfl [0, 1, 2, 3, 4, 5, 6, 7] rfl rfl (⟨_, _, Or.inr rfl, fun _ => rfl, fun x hx => (hq2_gq29 x (by omega)).trans (hG3 x hx), hgw30, rfl⟩) ⟨Nat.le_of_ble_eq_true rfl, Nat.le_of_ble_eq_true rfl⟩ dX12_gossips_275
                        · have hyl : y < pp := ge_f (by omega) (by omega) c25
                          refine lv_aload_n (pc := 194) hx hb dX12_gossips_194 rfl (lv_at hl 0 rfl) ?_
                          refine r_get X hW 0 ciX12 46 rfl (by decide) m_1273 rfl rfl dX12_gossips_195 ?_
                          refine lv_iload (pc := 198) hx hb dX12_gossips_198 (lv_at hl 4 rfl) ?_
                          refine lv_bipush (v := 7) (pc := 200) hx hb dX12_gossips_200 (by decide) ?_
                          refine lv_iadd (pc := 202) hx hb dX12_gossips_202 ?_
                          refine lv_topi (fun uv33 euv33 => ?_)
                          obtain rfl : uv33 = nI (7 * dn + 7) := euv33.trans (nI_add _ _)
                          refine lv_iload (pc := 203) hx hb dX12_gossips_203 (lv_at hl 9 rfl) ?_
                          refine lv_iadd (pc := 205) hx hb dX12_gossips_205 ?_
                          refine lv_topi (fun uv34 euv34 => ?_)
                          obtain rfl : uv34 = nI (7 * dn + 7 + y) := euv34.trans (nI_add _ _)
                          refine lv_iload (pc := 206) hx hb dX12_gossips_206 (lv_at hl 9 rfl) ?_
                          refine lv_aload_n (pc := 208) hx hb dX12_gossips_208 rfl (lv_at hl 0 rfl) ?_
                          refine r_get X hW 0 ciX12 12 rfl (by decide) m_1243 rfl rfl dX12_gossips_209 ?_
                          refine lv_iload (pc := 212) hx hb dX12_gossips_212 (lv_at hl 7 rfl) ?_
                          refine r_iald X hW 3 rfl (vp_in_nI (by omega) (by decide)) dX12_gossips_214 ?_
                          refine lv_topi (fun uv35 euv35 => ?_)
                          obtain rfl : uv35 = nI ea := euv35.trans (by rw [nI_clamp (by omega)]; exact eA)
                          refine lv_icmp_eq (tgt := 230) (pc := 215) hx hb dX12_gossips_215 rfl (fun c36 => ?_) (fun c36 => ?_)
                          · refine lv_iload (pc := 230) hx hb dX12_gossips_230 (lv_at hl 8 rfl) ?_
                            refine lv_goto (tgt := 245) (pc := 232) hx hb dX12_gossips_232 rfl ?_
                            obtain ⟨f37, ef37⟩ : ∃ fz : Nat → Int32, upd G3 (nI (7 * dn + 7 + y)).toNatClampNeg (G (7 * dn + ea) ||| G (7 * dn + eb)) = fz := ⟨_, rfl⟩
                            refine r_iast (ws' := [(h0, .inr (12, [.int i0, .ref b1, .int i2, .int i3, .int i4, .int i5, .ref b6, .ref b7, .ref b8, .ref b9, .ref b10, .ref b11, .ref b12, .ref b13, .ref b14, .ref b15, .ref b16, .ref b17, .int i18, .int i19, .int i20, .ref b21, .ref b22, .ref b23, .ref b24, .ref b25, .ref b26, .int i27, .ref b28, .ref b29, .ref b30, .ref b31, .ref b32, .ref b33, .ref b34, .ref b35, .ref b36, .int i37, .int i38, .int i39, .int i40, .int i41, .int i42, .int i43, .int i44, .int i45, .ref b46, .ref b47, .ref b48, .ref b49, .ref b50, .ref b51, .ref b52, .ref b53, .ref b54, .ref b55, .ref b56, .ref b57, .ref b58, .ref b59, .ref b60, .ref b61, .ref b62, .ref b63])), (b6, .inl (g.2.1 1, 11, .inl P)), (b7, .inl (g.2.1 1, 11, .inl Lc)), (b12, .inl (g.2.1 1, 132, .inl La)), (b13, .inl (g.2.1 1, 132, .inl Lb)), (b48, .inl (g.2.1 3, 12, .inl lw)), (b46, .inl (g.2.1 1, 112, .inl f37)), (b47, .inl (g.2.1 1, 16, .inl gr))]) X hW 6 rfl (vp_in_nI (by omega) (by decide)) ef37 rfl dX12_gossips_245 (fun H locs hW => ?_)
                            refine lv_iinc (v := nI (y + 1)) (lv' := [(9, .int (nI (y + 1))), (0, .ref h0), (1, .int (nI v)), (2, .int (nI dn)), (3, .int 1), (4, .int (nI (7 * dn))), (5, .int 0), (6, .int (nI i)), (7, .int (nI (12 * v + i))), (8, .int (G (7 * dn + ea) ||| G (7 * dn + eb)))]) (pc := 246) hx hb dX12_gossips_246 hl (k := 9) rfl ((nI_succ y).symm) (by decide) rfl (fun ls hl => ?_)
                            refine lv_goto (tgt := 183) (pc := 249) hx hb dX12_gossips_249 rfl ?_
                            have hW : WD g A s _ _ [(h0, .inr (12, [.int i0, .ref b1, .int i2, .int i3, .int i4, .int i5, .ref b6, .ref b7, .ref b8, .ref b9, .ref b10, .ref b11, .ref b12, .ref b13, .ref b14, .ref b15, .ref b16, .ref b17, .int i18, .int i19, .int i20, .ref b21, .ref b22, .ref b23, .ref b24, .ref b25, .ref b26, .int i27, .ref b28, .ref b29, .ref b30, .ref b31, .ref b32, .ref b33, .ref b34, .ref b35, .ref b36, .int i37, .int i38, .int i39, .int i40, .int i41, .int i42, .int i43, .int i44, .int i45, .ref b46, .ref b47, .ref b48, .ref b49, .ref b50, .ref b51, .ref b52, .ref b53, .ref b54, .ref b55, .ref b56, .ref b57, .ref b58, .ref b59, .ref b60, .ref b61, .ref b62, .ref b63])), (b6, .inl (g.2.1 1, 11, .inl P)), (b7, .inl (g.2.1 1, 11, .inl Lc)), (b12, .inl (g.2.1 1, 132, .inl La)), (b13, .inl (g.2.1 1, 132, .inl Lb)), (b48, .inl (g.2.1 3, 12, .inl lw)), (b46, .inl (g.2.1 1, 112, .inl f37)), (b47, .inl (g.2.1 1, 16, .inl gr))] := hW.pick [0, 1, 2, 3, 4, 5, 6, 7] rfl rfl
                            exact ih3 (y + 1) f37 (by omega) (by omega) (fun x hx => by
                                rw [← ef37, nI_clamp (by omega)]
                                simp only [upd, show ¬ x = 7 * dn + 7 + y by omega, if_false]
                                exact hG3 x hx) (fun z hz => by
                                rw [← ef37, nI_clamp (by omega)]
                                by_cases e9 : z = y
                                · subst e9; simp only [upd, if_true]; rw [gaft, if_pos (Or.inl (nI_inj6 (by omega) (by omega) c36))]; rfl
                                · simp only [upd, show ¬ 7 * dn + 7 + z = 7 * dn + 7 + y by omega, if_false]; exact hC z (by omega)) _ _ _ hW (lv_sub hl [1, 2, 3, 4, 5, 6, 7, 8, 9, 0] rfl)
                          · refine lv_iload (pc := 218) hx hb dX12_gossips_218 (lv_at hl 9 rfl) ?_
                            refine lv_aload_n (pc := 220) hx hb dX12_gossips_220 rfl (lv_at hl 0 rfl) ?_
                            refine r_get X hW 0 ciX12 13 rfl (by decide) m_1244 rfl rfl dX12_gossips_221 ?_
                            refine lv_iload (pc := 224) hx hb dX12_gossips_224 (lv_at hl 7 rfl) ?_
                            refine r_iald X hW 4 rfl (vp_in_nI (by omega) (by decide)) dX12_gossips_226 ?_
                            refine lv_topi (fun uv38 euv38 => ?_)
                            obtain rfl : uv38 = nI eb := euv38.trans (by rw [nI_clamp (by omega)]; exact eB)
                            refine lv_icmp_ne (tgt := 235) (pc := 227) hx hb dX12_gossips_227 rfl (fun c39 => ?_) (fun c39 => ?_)
                            · refine lv_aload_n (pc := 235) hx hb dX12_gossips_235 rfl (lv_at hl 0 rfl) ?_
                              refine r_get X hW 0 ciX12 46 rfl (by decide) m_1273 rfl rfl dX12_gossips_236 ?_
                              refine lv_iload (pc := 239) hx hb dX12_gossips_239 (lv_at hl 4 rfl) ?_
                              refine lv_iload (pc := 241) hx hb dX12_gossips_241 (lv_at hl 9 rfl) ?_
                              refine lv_iadd (pc := 243) hx hb dX12_gossips_243 ?_
                              refine lv_topi (fun uv40 euv40 => ?_)
                              obtain rfl : uv40 = nI (7 * dn + y) := euv40.trans (nI_add _ _)
                              refine r_iald X hW 6 rfl (vp_in_nI (by omega) (by decide)) dX12_gossips_244 ?_
                              refine lv_topi (fun uv41 euv41 => ?_)
                              obtain rfl : uv41 = G (7 * dn + y) := euv41.trans (by rw [nI_clamp (by omega)]; exact hG3 _ (by omega))
                              obtain ⟨f42, ef42⟩ : ∃ fz : Nat → Int32, upd G3 (nI (7 * dn + 7 + y)).toNatClampNeg (G (7 * dn + y)) = fz := ⟨_, rfl⟩
                              refine r_iast (ws' := [(h0, .inr (12, [.int i0, .ref b1, .int i2, .int i3, .int i4, .int i5, .ref b6, .ref b7, .ref b8, .ref b9, .ref b10, .ref b11, .ref b12, .ref b13, .ref b14, .ref b15, .ref b16, .ref b17, .int i18, .int i19, .int i20, .ref b21, .ref b22, .ref b23, .ref b24, .ref b25, .ref b26, .int i27, .ref b28, .ref b29, .ref b30, .ref b31, .ref b32, .ref b33, .ref b34, .ref b35, .ref b36, .int i37, .int i38, .int i39, .int i40, .int i41, .int i42, .int i43, .int i44, .int i45, .ref b46, .ref b47, .ref b48, .ref b49, .ref b50, .ref b51, .ref b52, .ref b53, .ref b54, .ref b55, .ref b56, .ref b57, .ref b58, .ref b59, .ref b60, .ref b61, .ref b62, .ref b63])), (b6, .inl (g.2.1 1, 11, .inl P)), (b7, .inl (g.2.1 1, 11, .inl Lc)), (b12, .inl (g.2.1 1, 132, .inl La)), (b13, .inl (g.2.1 1, 132, .inl Lb)), (b48, .inl (g.2.1 3, 12, .inl lw)), (b46, .inl (g.2.1 1, 112, .inl f42)), (b47, .inl (g.2.1 1, 16, .inl gr))]) X hW 6 rfl (vp_in_nI (by omega) (by decide)) ef42 rfl dX12_gossips_245 (fun H locs hW => ?_)
                              refine lv_iinc (v := nI (y + 1)) (lv' := [(9, .int (nI (y + 1))), (0, .ref h0), (1, .int (nI v)), (2, .int (nI dn)), (3, .int 1), (4, .int (nI (7 * dn))), (5, .int 0), (6, .int (nI i)), (7, .int (nI (12 * v + i))), (8, .int (G (7 * dn + ea) ||| G (7 * dn + eb)))]) (pc := 246) hx hb dX12_gossips_246 hl (k := 9) rfl ((nI_succ y).symm) (by decide) rfl (fun ls hl => ?_)
                              refine lv_goto (tgt := 183) (pc := 249) hx hb dX12_gossips_249 rfl ?_
                              have hW : WD g A s _ _ [(h0, .inr (12, [.int i0, .ref b1, .int i2, .int i3, .int i4, .int i5, .ref b6, .ref b7, .ref b8, .ref b9, .ref b10, .ref b11, .ref b12, .ref b13, .ref b14, .ref b15, .ref b16, .ref b17, .int i18, .int i19, .int i20, .ref b21, .ref b22, .ref b23, .ref b24, .ref b25, .ref b26, .int i27, .ref b28, .ref b29, .ref b30, .ref b31, .ref b32, .ref b33, .ref b34, .ref b35, .ref b36, .int i37, .int i38, .int i39, .int i40, .int i41, .int i42, .int i43, .int i44, .int i45, .ref b46, .ref b47, .ref b48, .ref b49, .ref b50, .ref b51, .ref b52, .ref b53, .ref b54, .ref b55, .ref b56, .ref b57, .ref b58, .ref b59, .ref b60, .ref b61, .ref b62, .ref b63])), (b6, .inl (g.2.1 1, 11, .inl P)), (b7, .inl (g.2.1 1, 11, .inl Lc)), (b12, .inl (g.2.1 1, 132, .inl La)), (b13, .inl (g.2.1 1, 132, .inl Lb)), (b48, .inl (g.2.1 3, 12, .inl lw)), (b46, .inl (g.2.1 1, 112, .inl f42)), (b47, .inl (g.2.1 1, 16, .inl gr))] := hW.pick [0, 1, 2, 3, 4, 5, 6, 7] rfl rfl
                              exact ih3 (y + 1) f42 (by omega) (by omega) (fun x hx => by
                                  rw [← ef42, nI_clamp (by omega)]
                                  simp only [upd, show ¬ x = 7 * dn + 7 + y by omega, if_false]
                                  exact hG3 x hx) (fun z hz => by
                                  rw [← ef42, nI_clamp (by omega)]
                                  by_cases e9 : z = y
                                  · subst e9; simp only [upd, if_true]; rw [gaft, if_neg (fun q => q.elim (fun r => c36 (congrArg nI r)) (fun r => c39 (congrArg nI r)))]; rfl
                                  · simp only [upd, show ¬ 7 * dn + 7 + z = 7 * dn + 7 + y by omega, if_false]; exact hC z (by omega)) _ _ _ hW (lv_sub hl [1, 2, 3, 4, 5, 6, 7, 8, 9, 0] rfl)
                            · refine lv_iload (pc := 230) hx hb dX12_gossips_230 (lv_at hl 8 rfl) ?_
                              refine lv_goto (tgt := 245) (pc := 232) hx hb dX12_gossips_232 rfl ?_
                              obtain ⟨f43, ef43⟩ : ∃ fz : Nat → Int32, upd G3 (nI (7 * dn + 7 + y)).toNatClampNeg (G (7 * dn + ea) ||| G (7 * dn + eb)) = fz := ⟨_, rfl⟩
                              refine r_iast (ws' := [(h0, .inr (12, [.int i0, .ref b1, .int i2, .int i3, .int i4, .int i5, .ref b6, .ref b7, .ref b8, .ref b9, .ref b10, .ref b11, .ref b12, .ref b13, .ref b14, .ref b15, .ref b16, .ref b17, .int i18, .int i19, .int i20, .ref b21, .ref b22, .ref b23, .ref b24, .ref b25, .ref b26, .int i27, .ref b28, .ref b29, .ref b30, .ref b31, .ref b32, .ref b33, .ref b34, .ref b35, .ref b36, .int i37, .int i38, .int i39, .int i40, .int i41, .int i42, .int i43, .int i44, .int i45, .ref b46, .ref b47, .ref b48, .ref b49, .ref b50, .ref b51, .ref b52, .ref b53, .ref b54, .ref b55, .ref b56, .ref b57, .ref b58, .ref b59, .ref b60, .ref b61, .ref b62, .ref b63])), (b6, .inl (g.2.1 1, 11, .inl P)), (b7, .inl (g.2.1 1, 11, .inl Lc)), (b12, .inl (g.2.1 1, 132, .inl La)), (b13, .inl (g.2.1 1, 132, .inl Lb)), (b48, .inl (g.2.1 3, 12, .inl lw)), (b46, .inl (g.2.1 1, 112, .inl f43)), (b47, .inl (g.2.1 1, 16, .inl gr))]) X hW 6 rfl (vp_in_nI (by omega) (by decide)) ef43 rfl dX12_gossips_245 (fun H locs hW => ?_)
                              refine lv_iinc (v := nI (y + 1)) (lv' := [(9, .int (nI (y + 1))), (0, .ref h0), (1, .int (nI v)), (2, .int (nI dn)), (3, .int 1), (4, .int (nI (7 * dn))), (5, .int 0), (6, .int (nI i)), (7, .int (nI (12 * v + i))), (8, .int (G (7 * dn + ea) ||| G (7 * dn + eb)))]) (pc := 246) hx hb dX12_gossips_246 hl (k := 9) rfl ((nI_succ y).symm) (by decide) rfl (fun ls hl => ?_)
                              refine lv_goto (tgt := 183) (pc := 249) hx hb dX12_gossips_249 rfl ?_
                              have hW : WD g A s _ _ [(h0, .inr (12, [.int i0, .ref b1, .int i2, .int i3, .int i4, .int i5, .ref b6, .ref b7, .ref b8, .ref b9, .ref b10, .ref b11, .ref b12, .ref b13, .ref b14, .ref b15, .ref b16, .ref b17, .int i18, .int i19, .int i20, .ref b21, .ref b22, .ref b23, .ref b24, .ref b25, .ref b26, .int i27, .ref b28, .ref b29, .ref b30, .ref b31, .ref b32, .ref b33, .ref b34, .ref b35, .ref b36, .int i37, .int i38, .int i39, .int i40, .int i41, .int i42, .int i43, .int i44, .int i45, .ref b46, .ref b47, .ref b48, .ref b49, .ref b50, .ref b51, .ref b52, .ref b53, .ref b54, .ref b55, .ref b56, .ref b57, .ref b58, .ref b59, .ref b60, .ref b61, .ref b62, .ref b63])), (b6, .inl (g.2.1 1, 11, .inl P)), (b7, .inl (g.2.1 1, 11, .inl Lc)), (b12, .inl (g.2.1 1, 132, .inl La)), (b13, .inl (g.2.1 1, 132, .inl Lb)), (b48, .inl (g.2.1 3, 12, .inl lw)), (b46, .inl (g.2.1 1, 112, .inl f43)), (b47, .inl (g.2.1 1, 16, .inl gr))] := hW.pick [0, 1, 2, 3, 4, 5, 6, 7] rfl rfl
                              exact ih3 (y + 1) f43 (by omega) (by omega) (fun x hx => by
                                  rw [← ef43, nI_clamp (by omega)]
                                  simp only [upd, show ¬ x = 7 * dn + 7 + y by omega, if_false]
                                  exact hG3 x hx) (fun z hz => by
                                  rw [← ef43, nI_clamp (by omega)]
                                  by_cases e9 : z = y
                                  · subst e9; simp only [upd, if_true]; rw [gaft, if_pos (Or.inr (nI_inj6 (by omega) (by omega) c39))]; rfl
                                  · simp only [upd, show ¬ 7 * dn + 7 + z = 7 * dn + 7 + y by omega, if_false]; exact hC z (by omega)) _ _ _ hW (lv_sub hl [1, 2, 3, 4, 5, 6, 7, 8, 9, 0] rfl)
                    exact loop3 (pp + 1) 0 G2 (by omega) (Nat.zero_le _) hG2 (fun z hz => absurd hz (Nat.not_lt_zero z)) _ _ _ hW (lv_sub hl [3, 4, 5, 6, 7, 8, 9, 2, 1, 0] rfl)
                  · have h_eA := c23
                    refine lv_aload_n (pc := 157) hx hb dX12_gossips_157 rfl (lv_at hl 2 rfl) ?_
                    refine r_get X hW 0 ciX12 46 rfl (by decide) m_1273 rfl rfl dX12_gossips_158 ?_
                    refine lv_iload (pc := 161) hx hb dX12_gossips_161 (lv_at hl 6 rfl) ?_
                    refine lv_aload_n (pc := 163) hx hb dX12_gossips_163 rfl (lv_at hl 2 rfl) ?_
                    refine r_get X hW 0 ciX12 13 rfl (by decide) m_1244 rfl rfl dX12_gossips_164 ?_
                    refine lv_iload (pc := 167) hx hb dX12_gossips_167 (lv_at hl 1 rfl) ?_
                    refine r_iald X hW 4 rfl (vp_in_nI (by omega) (by decide)) dX12_gossips_169 ?_
                    refine lv_topi (fun uv44 euv44 => ?_)
                    obtain rfl : uv44 = nI eb := euv44.trans (by rw [nI_clamp (by omega)]; exact eB)
                    refine lv_iadd (pc := 170) hx hb dX12_gossips_170 ?_
                    refine lv_topi (fun uv45 euv45 => ?_)
                    obtain rfl : uv45 = nI (7 * dn + eb) := euv45.trans (nI_add _ _)
                    refine r_iald X hW 6 rfl (vp_in_nI (by omega) (by decide)) dX12_gossips_171 ?_
                    refine lv_topi (fun uv46 euv46 => ?_)
                    obtain rfl : uv46 = G (7 * dn + eb) := euv46.trans (by rw [nI_clamp (by omega)]; exact hG2 _ (by omega))
                    refine lv_iload (pc := 172) hx hb dX12_gossips_172 (lv_at hl 0 rfl) ?_
                    refine lv_icmp_ne (tgt := 180) (pc := 174) hx hb dX12_gossips_174 rfl (fun c47 => ?_) (fun c47 => ?_)
                    · refine lv_iconst (v := 0) (pc := 180) hx hb dX12_gossips_180 (by decide) ?_
                      refine lv_istore (lv' := [(9, .int 0), (8, .int (G (7 * dn + ea) ||| G (7 * dn + eb))), (7, .int (nI (12 * v + i))), (0, .ref h0), (1, .int (nI v)), (2, .int (nI dn)), (3, .int 1), (4, .int (nI (7 * dn))), (5, .int 0), (6, .int (nI i))]) (pc := 181) hx hb dX12_gossips_181 hl (by decide) rfl (fun ls hl => ?_)
                      have loop3 : ∀ (fx : Nat) (y : Nat) (G3 : Nat → Int32), (pp < fx + y) → (y ≤ pp) → (∀ x : Nat, x < 7 * (dn + 1) → G3 x = G x) → (∀ z : Nat, z < y → G3 (7 * dn + 7 + z) = gaft (rwt G dn) ea eb z) → ∀ (H : Heap) (locs : List Loc) (ls : Array Slot), WD g A s H locs [(h0, .inr (12, [.int i0, .ref b1, .int i2, .int i3, .int i4, .int i5, .ref b6, .ref b7, .ref b8, .ref b9, .ref b10, .ref b11, .ref b12, .ref b13, .ref b14, .ref b15, .ref b16, .ref b17, .int i18, .int i19, .int i20, .ref b21, .ref b22, .ref b23, .ref b24, .ref b25, .ref b26, .int i27, .ref b28, .ref b29, .ref b30, .ref b31, .ref b32, .ref b33, .ref b34, .ref b35, .ref b36, .int i37, .int i38, .int i39, .int i40, .int i41, .int i42, .int i43, .int i44, .int i45, .ref b46, .ref b47, .ref b48, .ref b49, .ref b50, .ref b51, .ref b52, .ref b53, .ref b54, .ref b55, .ref b56, .ref b57, .ref b58, .ref b59, .ref b60, .ref b61, .ref b62, .ref b63])), (b6, .inl (g.2.1 1, 11, .inl P)), (b7, .inl (g.2.1 1, 11, .inl Lc)), (b12, .inl (g.2.1 1, 132, .inl La)), (b13, .inl (g.2.1 1, 132, .inl Lb)), (b48, .inl (g.2.1 3, 12, .inl lw)), (b46, .inl (g.2.1 1, 112, .inl G3)), (b47, .inl (g.2.1 1, 16, .inl gr))] → lv_has ls 10 [(0, .ref h0), (1, .int (nI v)), (2, .int (nI dn)), (3, .int 1), (4, .int (nI (7 * dn))), (5, .int 0), (6, .int (nI i)), (7, .int (nI (12 * v + i))), (8, .int (G (7 * dn + ea) ||| G (7 * dn + eb))), (9, .int (nI y))] → W p l e (RM 2 0 0) s m args below meth c H locs 0 0 Q (F0 m 183 ls []) := by
                        intro fx
                        induction fx with
                        | zero =>
                          intro y G3 hm3 hy hG3 hC
                          exact absurd hm3 (by omega)
                        | succ fx ih3 =>
                          intro y G3 hm3 hy hG3 hC H locs ls hW hl
                          refine lv_iload (pc := 183) hx hb dX12_gossips_183 (lv_at hl 9 rfl) ?_
                          refine lv_aload_n (pc := 185) hx hb dX12_gossips_185 rfl (lv_at hl 0 rfl) ?_
                          refine r_get X hW 0 ciX12 6 rfl (by decide) m_1237 rfl rfl dX12_gossips_186 ?_
                          refine lv_iload_n (pc := 189) hx hb dX12_gossips_189 rfl (lv_at hl 1 rfl) ?_
                          refine r_iald X hW 1 rfl (vp_in_nI (by omega) (by decide)) dX12_gossips_190 ?_
                          refine lv_topi (fun uv48 euv48 => ?_)
                          obtain rfl : uv48 = nI pp := euv48.trans (by rw [nI_clamp (by omega)]; exact hP)
                          refine lv_icmp_ge (tgt := 252) (pc := 191) hx hb dX12_gossips_191 rfl (fun c49 => ?_) (fun c49 => ?_)
                          · have hyk : y = pp := Nat.le_antisymm hy (ge_t (by omega) (by omega) c49)
                            rw [hyk] at hC
                            refine lv_aload_n (pc := 252) hx hb dX12_gossips_252 rfl (lv_at hl 0 rfl) ?_
                            refine r_get X hW 0 ciX12 47 rfl (by decide) m_1274 rfl rfl dX12_gossips_253 ?_
                            refine lv_iload_n (pc := 256) hx hb dX12_gossips_256 rfl (lv_at hl 2 rfl) ?_
                            refine lv_iload (pc := 257) hx hb dX12_gossips_257 (lv_at hl 6 rfl) ?_
                            obtain ⟨f50, ef50⟩ : ∃ fz : Nat → Int32, upd gr (nI dn).toNatClampNeg (nI i) = fz := ⟨_, rfl⟩
                            refine r_iast (ws' := [(h0, .inr (12, [.int i0, .ref b1, .int i2, .int i3, .int i4, .int i5, .ref b6, .ref b7, .ref b8, .ref b9, .ref b10, .ref b11, .ref b12, .ref b13, .ref b14, .ref b15, .ref b16, .ref b17, .int i18, .int i19, .int i20, .ref b21, .ref b22, .ref b23, .ref b24, .ref b25, .ref b26, .int i27, .ref b28, .ref b29, .ref b30, .ref b31, .ref b32, .ref b33, .ref b34, .ref b35, .ref b36, .int i37, .int i38, .int i39, .int i40, .int i41, .int i42, .int i43, .int i44, .int i45, .ref b46, .ref b47, .ref b48, .ref b49, .ref b50, .ref b51, .ref b52, .ref b53, .ref b54, .ref b55, .ref b56, .ref b57, .ref b58, .ref b59, .ref b60, .ref b61, .ref b62, .ref b63])), (b6, .inl (g.2.1 1, 11, .inl P)), (b7, .inl (g.2.1 1, 11, .inl Lc)), (b12, .inl (g.2.1 1, 132, .inl La)), (b13, .inl (g.2.1 1, 132, .inl Lb)), (b48, .inl (g.2.1 3, 12, .inl lw)), (b46, .inl (g.2.1 1, 112, .inl G3)), (b47, .inl (g.2.1 1, 16, .inl f50))]) X hW 7 rfl (vp_in_nI (by omega) (by decide)) ef50 rfl dX12_gossips_259 (fun H locs hW => ?_)
                            have hg_f50 : gb16 f50 := by rw [← ef50]; exact gb16_upd hgr (by omega)
                            refine lv_aload_n (pc := 260) hx hb dX12_gossips_260 rfl (lv_at hl 0 rfl) ?_
                            refine lv_iload_n (pc := 261) hx hb dX12_gossips_261 rfl (lv_at hl 1 rfl) ?_
                            refine lv_iload_n (pc := 262) hx hb dX12_gossips_262 rfl (lv_at hl 2 rfl) ?_
                            refine lv_iconst (v := 1) (pc := 263) hx hb dX12_gossips_263 (by decide) ?_
                            refine lv_iadd (pc := 264) hx hb dX12_gossips_264 ?_
                            refine lv_topi (fun uv51 euv51 => ?_)
                            obtain rfl : uv51 = nI (dn + 1) := euv51.trans (nI_1 _)
                            refine lv_iload_n (pc := 265) hx hb dX12_gossips_265 rfl (lv_at hl 3 rfl) ?_
                            refine lv_iconst (v := 1) (pc := 266) hx hb dX12_gossips_266 (by decide) ?_
                            refine lv_isub (pc := 267) hx hb dX12_gossips_267 ?_
                            refine lv_topi (fun uv52 euv52 => ?_)
                            obtain rfl : uv52 = 0 := euv52.trans (by decide +kernel)
                            refine c_Vi (pc := 268) (As := [.int (nI v), .int (nI (dn + 1)), .int 0]) (rest := []) (wr := []) X hW 0 ciX12 rfl (C_X12_gossips_0 l g h0 b1 b6 b7 b8 b9 b10 b11 b12 b13 b14 b15 b16 b17 b21 b22 b23 b24 b25 b26 b28 b29 b30 b31 b32 b33 b34 b35 b36 b46 b47 b48 b49 b50 b51 b52 b53 b54 b55 b56 b57 b58 b59 b60 b61 b62 b63 i0 i2 i3 i4 i5 i18 i19 i20 i27 i37 i38 i39 i40 i41 i42 i43 i44 i45 P Lc La Lb lw G3 f50 v lc pp (dn + 1) hv hlc hpp hP hLc hLA hLB hg_f50 (by omega)) vX12_346 [0, 1, 2, 3, 4, 5, 6, 7] [] rfl rfl rfl rfl rfl rfl hl.1 rfl (Nat.le_of_ble_eq_true rfl) ⟨Nat.le_of_ble_eq_true rfl, Nat.le_of_ble_eq_true rfl⟩ ⟨Nat.le_of_ble_eq_true rfl, Nat.le_of_ble_eq_true rfl⟩ dX12_gossips_268 (fun r55 u9 H locs hq hW => ?_)
                            obtain ⟨gq53, gw54, -, hq1_gq53, hq2_gq53, hgw54, rfl⟩ := hq
                            have hW : WD g A s _ _ [(h0, .inr (12, [.int i0, .ref b1, .int i2, .int i3, .int i4, .int i5, .ref b6, .ref b7, .ref b8, .ref b9, .ref b10, .ref b11, .ref b12, .ref b13, .ref b14, .ref b15, .ref b16, .ref b17, .int i18, .int i19, .int i20, .ref b21, .ref b22, .ref b23, .ref b24, .ref b25, .ref b26, .int i27, .ref b28, .ref b29, .ref b30, .ref b31, .ref b32, .ref b33, .ref b34, .ref b35, .ref b36, .int i37, .int i38, .int i39, .int i40, .int i41, .int i42, .int i43, .int i44, .int i45, .ref b46, .ref b47, .ref b48, .ref b49, .ref b50, .ref b51, .ref b52, .ref b53, .ref b54, .ref b55, .ref b56, .ref b57, .ref b58, .ref b59, .ref b60, .ref b61, .ref b62, .ref b63])), (b6, .inl (g.2.1 1, 11, .inl P)), (b7, .inl (g.2.1 1, 11, .inl Lc)), (b12, .inl (g.2.1 1, 132, .inl La)), (b13, .inl (g.2.1 1, 132, .inl Lb)), (b48, .inl (g.2.1 3, 12, .inl lw)), (b46, .inl (g.2.1 1, 112, .inl gq53)), (b47, .inl (g.2.1 1, 16, .inl gw54))] := hW
                            refine lv_if_eq (tgt := 276) (pc := 271) hx hb dX12_gossips_271 rfl (fun c56 => ?_) (fun c56 => ?_)
                            · refine lv_iinc (v := nI (i + 1)) (lv' := [(6, .int (nI (i + 1))), (0, .ref h0), (1, .int (nI v)), (2, .int (nI dn)), (3, .int 1), (4, .int (nI (7 * dn))), (5, .int 0), (7, .int (nI (12 * v + i))), (8, .int (G (7 * dn + ea) ||| G (7 * dn + eb))), (9, .int (nI y))]) (pc := 276) hx hb dX12_gossips_276 hl (k := 6) rfl ((nI_succ i).symm) (by decide) rfl (fun ls hl => ?_)
                              refine lv_goto (tgt := 74) (pc := 279) hx hb dX12_gossips_279 rfl ?_
                              have hW : WD g A s _ _ [(h0, .inr (12, [.int i0, .ref b1, .int i2, .int i3, .int i4, .int i5, .ref b6, .ref b7, .ref b8, .ref b9, .ref b10, .ref b11, .ref b12, .ref b13, .ref b14, .ref b15, .ref b16, .ref b17, .int i18, .int i19, .int i20, .ref b21, .ref b22, .ref b23, .ref b24, .ref b25, .ref b26, .int i27, .ref b28, .ref b29, .ref b30, .ref b31, .ref b32, .ref b33, .ref b34, .ref b35, .ref b36, .int i37, .int i38, .int i39, .int i40, .int i41, .int i42, .int i43, .int i44, .int i45, .ref b46, .ref b47, .ref b48, .ref b49, .ref b50, .ref b51, .ref b52, .ref b53, .ref b54, .ref b55, .ref b56, .ref b57, .ref b58, .ref b59, .ref b60, .ref b61, .ref b62, .ref b63])), (b6, .inl (g.2.1 1, 11, .inl P)), (b7, .inl (g.2.1 1, 11, .inl Lc)), (b12, .inl (g.2.1 1, 132, .inl La)), (b13, .inl (g.2.1 1, 132, .inl Lb)), (b48, .inl (g.2.1 3, 12, .inl lw)), (b46, .inl (g.2.1 1, 112, .inl gq53)), (b47, .inl (g.2.1 1, 16, .inl gw54))] := hW.pick [0, 1, 2, 3, 4, 5, 6, 7] rfl rfl
                              exact ih2 (i + 1) gq53 gw54 (by omega) (by omega) (fun x hx => (hq2_gq53 x (by omega)).trans (hG3 x hx)) hgw54 (gno_s hno (by omega) hea heb eA eB (fun ha9 hb9 hw9 hu9 => fun hg9 => absurd (hq1_gq53 (gok_cong hg9 (fun o ho => (hC o ho).symm))) (by rw [c56]; decide))) _ _ _ hW (lv_sub hl [1, 2, 3, 4, 5, 6, 0] rfl)
                            · refine lv_iconst (v := 1) (pc := 274) hx hb dX12_gossips_274 (by decide) ?_
                              exact e_z X hQ hr hW (u := [(h0, .inr (12, [.int i0, .ref b1, .int i2, .int i3, .int i4, .int i5, .ref b6, .ref b7, .ref b8, .ref b9, .ref b10, .ref b11, .ref b12, .ref b13, .ref b14, .ref b15, .ref b16, .ref b17, .int i18, .int i19, .int i20, .ref b21, .ref b22, .ref b23, .ref b24, .ref b25, .ref b26, .int i27, .ref b28, .ref b29, .ref b30, .ref b31, .ref b32, .ref b33, .ref b34, .ref b35, .ref b36, .int i37, .int i38, .int i39, .int i40, .int i41, .int i42, .int i43, .int i44, .int i45, .ref b46, .ref b47, .ref b48, .ref b49, .ref b50, .ref b51, .ref b52, .ref b53, .ref b54, .ref b55, .ref b56, .ref b57, .ref b58, .ref b59, .ref b60, .ref b61, .ref b62, .ref b63])), (b6, .inl (g.2.1 1, 11, .inl P)), (b7, .inl (g.2.1 1, 11, .inl Lc)), (b12, .inl (g.2.1 1, 132, .inl La)), (b13, .inl (g.2.1 1, 132, .inl Lb)), (b48, .inl (g.2.1 3, 12, .inl lw)), (b46, .inl (g.2.1 1, 112, .inl gq53)), (b47, .inl (g.2.1 1, 16, .inl gw54))]) rfl [0, 1, 2, 3, 4, 5, 6, 7] rfl rfl (⟨_, _, Or.inr rfl, fun _ => rfl, fun x hx => (hq2_gq53 x (by omega)).trans (hG3 x hx), hgw54, rfl⟩) ⟨Nat.le_of_ble_eq_true rfl, Nat.le_of_ble_eq_true rfl⟩ dX12_gossips_275
                          · have hyl : y < pp := ge_f (by omega) (by omega) c49
                            refine lv_aload_n (pc := 194) hx hb dX12_gossips_194 rfl (lv_at hl 0 rfl) ?_
                            refine r_get X hW 0 ciX12 46 rfl (by decide) m_1273 rfl rfl dX12_gossips_195 ?_
                            refine lv_iload (pc := 198) hx hb dX12_gossips_198 (lv_at hl 4 rfl) ?_
                            refine lv_bipush (v := 7) (pc := 200) hx hb dX12_gossips_200 (by decide) ?_
                            refine lv_iadd (pc := 202) hx hb dX12_gossips_202 ?_
                            refine lv_topi (fun uv57 euv57 => ?_)
                            obtain rfl : uv57 = nI (7 * dn + 7) := euv57.trans (nI_add _ _)
                            refine lv_iload (pc := 203) hx hb dX12_gossips_203 (lv_at hl 9 rfl) ?_
                            refine lv_iadd (pc := 205) hx hb dX12_gossips_205 ?_
                            refine lv_topi (fun uv58 euv58 => ?_)
                            obtain rfl : uv58 = nI (7 * dn + 7 + y) := euv58.trans (nI_add _ _)
                            refine lv_iload (pc := 206) hx hb dX12_gossips_206 (lv_at hl 9 rfl) ?_
                            refine lv_aload_n (pc := 208) hx hb dX12_gossips_208 rfl (lv_at hl 0 rfl) ?_
                            refine r_get X hW 0 ciX12 12 rfl (by decide) m_1243 rfl rfl dX12_gossips_209 ?_
                            refine lv_iload (pc := 212) hx hb dX12_gossips_212 (lv_at hl 7 rfl) ?_
                            refine r_iald X hW 3 rfl (vp_in_nI (by omega) (by decide)) dX12_gossips_214 ?_
                            refine lv_topi (fun uv59 euv59 => ?_)
                            obtain rfl : uv59 = nI ea := euv59.trans (by rw [nI_clamp (by omega)]; exact eA)
                            refine lv_icmp_eq (tgt := 230) (pc := 215) hx hb dX12_gossips_215 rfl (fun c60 => ?_) (fun c60 => ?_)
                            · refine lv_iload (pc := 230) hx hb dX12_gossips_230 (lv_at hl 8 rfl) ?_
                              refine lv_goto (tgt := 245) (pc := 232) hx hb dX12_gossips_232 rfl ?_
                              obtain ⟨f61, ef61⟩ : ∃ fz : Nat → Int32, upd G3 (nI (7 * dn + 7 + y)).toNatClampNeg (G (7 * dn + ea) ||| G (7 * dn + eb)) = fz := ⟨_, rfl⟩
                              refine r_iast (ws' := [(h0, .inr (12, [.int i0, .ref b1, .int i2, .int i3, .int i4, .int i5, .ref b6, .ref b7, .ref b8, .ref b9, .ref b10, .ref b11, .ref b12, .ref b13, .ref b14, .ref b15, .ref b16, .ref b17, .int i18, .int i19, .int i20, .ref b21, .ref b22, .ref b23, .ref b24, .ref b25, .ref b26, .int i27, .ref b28, .ref b29, .ref b30, .ref b31, .ref b32, .ref b33, .ref b34, .ref b35, .ref b36, .int i37, .int i38, .int i39, .int i40, .int i41, .int i42, .int i43, .int i44, .int i45, .ref b46, .ref b47, .ref b48, .ref b49, .ref b50, .ref b51, .ref b52, .ref b53, .ref b54, .ref b55, .ref b56, .ref b57, .ref b58, .ref b59, .ref b60, .ref b61, .ref b62, .ref b63])), (b6, .inl (g.2.1 1, 11, .inl P)), (b7, .inl (g.2.1 1, 11, .inl Lc)), (b12, .inl (g.2.1 1, 132, .inl La)), (b13, .inl (g.2.1 1, 132, .inl Lb)), (b48, .inl (g.2.1 3, 12, .inl lw)), (b46, .inl (g.2.1 1, 112, .inl f61)), (b47, .inl (g.2.1 1, 16, .inl gr))]) X hW 6 rfl (vp_in_nI (by omega) (by decide)) ef61 rfl dX12_gossips_245 (fun H locs hW => ?_)
                              refine lv_iinc (v := nI (y + 1)) (lv' := [(9, .int (nI (y + 1))), (0, .ref h0), (1, .int (nI v)), (2, .int (nI dn)), (3, .int 1), (4, .int (nI (7 * dn))), (5, .int 0), (6, .int (nI i)), (7, .int (nI (12 * v + i))), (8, .int (G (7 * dn + ea) ||| G (7 * dn + eb)))]) (pc := 246) hx hb dX12_gossips_246 hl (k := 9) rfl ((nI_succ y).symm) (by decide) rfl (fun ls hl => ?_)
                              refine lv_goto (tgt := 183) (pc := 249) hx hb dX12_gossips_249 rfl ?_
                              have hW : WD g A s _ _ [(h0, .inr (12, [.int i0, .ref b1, .int i2, .int i3, .int i4, .int i5, .ref b6, .ref b7, .ref b8, .ref b9, .ref b10, .ref b11, .ref b12, .ref b13, .ref b14, .ref b15, .ref b16, .ref b17, .int i18, .int i19, .int i20, .ref b21, .ref b22, .ref b23, .ref b24, .ref b25, .ref b26, .int i27, .ref b28, .ref b29, .ref b30, .ref b31, .ref b32, .ref b33, .ref b34, .ref b35, .ref b36, .int i37, .int i38, .int i39, .int i40, .int i41, .int i42, .int i43, .int i44, .int i45, .ref b46, .ref b47, .ref b48, .ref b49, .ref b50, .ref b51, .ref b52, .ref b53, .ref b54, .ref b55, .ref b56, .ref b57, .ref b58, .ref b59, .ref b60, .ref b61, .ref b62, .ref b63])), (b6, .inl (g.2.1 1, 11, .inl P)), (b7, .inl (g.2.1 1, 11, .inl Lc)), (b12, .inl (g.2.1 1, 132, .inl La)), (b13, .inl (g.2.1 1, 132, .inl Lb)), (b48, .inl (g.2.1 3, 12, .inl lw)), (b46, .inl (g.2.1 1, 112, .inl f61)), (b47, .inl (g.2.1 1, 16, .inl gr))] := hW.pick [0, 1, 2, 3, 4, 5, 6, 7] rfl rfl
                              exact ih3 (y + 1) f61 (by omega) (by omega) (fun x hx => by
                                  rw [← ef61, nI_clamp (by omega)]
                                  simp only [upd, show ¬ x = 7 * dn + 7 + y by omega, if_false]
                                  exact hG3 x hx) (fun z hz => by
                                  rw [← ef61, nI_clamp (by omega)]
                                  by_cases e9 : z = y
                                  · subst e9; simp only [upd, if_true]; rw [gaft, if_pos (Or.inl (nI_inj6 (by omega) (by omega) c60))]; rfl
                                  · simp only [upd, show ¬ 7 * dn + 7 + z = 7 * dn + 7 + y by omega, if_false]; exact hC z (by omega)) _ _ _ hW (lv_sub hl [1, 2, 3, 4, 5, 6, 7, 8, 9, 0] rfl)
                            · refine lv_iload (pc := 218) hx hb dX12_gossips_218 (lv_at hl 9 rfl) ?_
                              refine lv_aload_n (pc := 220) hx hb dX12_gossips_220 rfl (lv_at hl 0 rfl) ?_
                              refine r_get X hW 0 ciX12 13 rfl (by decide) m_1244 rfl rfl dX12_gossips_221 ?_
                              refine lv_iload (pc := 224) hx hb dX12_gossips_224 (lv_at hl 7 rfl) ?_
                              refine r_iald X hW 4 rfl (vp_in_nI (by omega) (by decide)) dX12_gossips_226 ?_
                              refine lv_topi (fun uv62 euv62 => ?_)
                              obtain rfl : uv62 = nI eb := euv62.trans (by rw [nI_clamp (by omega)]; exact eB)
                              refine lv_icmp_ne (tgt := 235) (pc := 227) hx hb dX12_gossips_227 rfl (fun c63 => ?_) (fun c63 => ?_)
                              · refine lv_aload_n (pc := 235) hx hb dX12_gossips_235 rfl (lv_at hl 0 rfl) ?_
                                refine r_get X hW 0 ciX12 46 rfl (by decide) m_1273 rfl rfl dX12_gossips_236 ?_
                                refine lv_iload (pc := 239) hx hb dX12_gossips_239 (lv_at hl 4 rfl) ?_
                                refine lv_iload (pc := 241) hx hb dX12_gossips_241 (lv_at hl 9 rfl) ?_
                                refine lv_iadd (pc := 243) hx hb dX12_gossips_243 ?_
                                refine lv_topi (fun uv64 euv64 => ?_)
                                obtain rfl : uv64 = nI (7 * dn + y) := euv64.trans (nI_add _ _)
                                refine r_iald X hW 6 rfl (vp_in_nI (by omega) (by decide)) dX12_gossips_244 ?_
                                refine lv_topi (fun uv65 euv65 => ?_)
                                obtain rfl : uv65 = G (7 * dn + y) := euv65.trans (by rw [nI_clamp (by omega)]; exact hG3 _ (by omega))
                                obtain ⟨f66, ef66⟩ : ∃ fz : Nat → Int32, upd G3 (nI (7 * dn + 7 + y)).toNatClampNeg (G (7 * dn + y)) = fz := ⟨_, rfl⟩
                                refine r_iast (ws' := [(h0, .inr (12, [.int i0, .ref b1, .int i2, .int i3, .int i4, .int i5, .ref b6, .ref b7, .ref b8, .ref b9, .ref b10, .ref b11, .ref b12, .ref b13, .ref b14, .ref b15, .ref b16, .ref b17, .int i18, .int i19, .int i20, .ref b21, .ref b22, .ref b23, .ref b24, .ref b25, .ref b26, .int i27, .ref b28, .ref b29, .ref b30, .ref b31, .ref b32, .ref b33, .ref b34, .ref b35, .ref b36, .int i37, .int i38, .int i39, .int i40, .int i41, .int i42, .int i43, .int i44, .int i45, .ref b46, .ref b47, .ref b48, .ref b49, .ref b50, .ref b51, .ref b52, .ref b53, .ref b54, .ref b55, .ref b56, .ref b57, .ref b58, .ref b59, .ref b60, .ref b61, .ref b62, .ref b63])), (b6, .inl (g.2.1 1, 11, .inl P)), (b7, .inl (g.2.1 1, 11, .inl Lc)), (b12, .inl (g.2.1 1, 132, .inl La)), (b13, .inl (g.2.1 1, 132, .inl Lb)), (b48, .inl (g.2.1 3, 12, .inl lw)), (b46, .inl (g.2.1 1, 112, .inl f66)), (b47, .inl (g.2.1 1, 16, .inl gr))]) X hW 6 rfl (vp_in_nI (by omega) (by decide)) ef66 rfl dX12_gossips_245 (fun H locs hW => ?_)
                                refine lv_iinc (v := nI (y + 1)) (lv' := [(9, .int (nI (y + 1))), (0, .ref h0), (1, .int (nI v)), (2, .int (nI dn)), (3, .int 1), (4, .int (nI (7 * dn))), (5, .int 0), (6, .int (nI i)), (7, .int (nI (12 * v + i))), (8, .int (G (7 * dn + ea) ||| G (7 * dn + eb)))]) (pc := 246) hx hb dX12_gossips_246 hl (k := 9) rfl ((nI_succ y).symm) (by decide) rfl (fun ls hl => ?_)
                                refine lv_goto (tgt := 183) (pc := 249) hx hb dX12_gossips_249 rfl ?_
                                have hW : WD g A s _ _ [(h0, .inr (12, [.int i0, .ref b1, .int i2, .int i3, .int i4, .int i5, .ref b6, .ref b7, .ref b8, .ref b9, .ref b10, .ref b11, .ref b12, .ref b13, .ref b14, .ref b15, .ref b16, .ref b17, .int i18, .int i19, .int i20, .ref b21, .ref b22, .ref b23, .ref b24, .ref b25, .ref b26, .int i27, .ref b28, .ref b29, .ref b30, .ref b31, .ref b32, .ref b33, .ref b34, .ref b35, .ref b36, .int i37, .int i38, .int i39, .int i40, .int i41, .int i42, .int i43, .int i44, .int i45, .ref b46, .ref b47, .ref b48, .ref b49, .ref b50, .ref b51, .ref b52, .ref b53, .ref b54, .ref b55, .ref b56, .ref b57, .ref b58, .ref b59, .ref b60, .ref b61, .ref b62, .ref b63])), (b6, .inl (g.2.1 1, 11, .inl P)), (b7, .inl (g.2.1 1, 11, .inl Lc)), (b12, .inl (g.2.1 1, 132, .inl La)), (b13, .inl (g.2.1 1, 132, .inl Lb)), (b48, .inl (g.2.1 3, 12, .inl lw)), (b46, .inl (g.2.1 1, 112, .inl f66)), (b47, .inl (g.2.1 1, 16, .inl gr))] := hW.pick [0, 1, 2, 3, 4, 5, 6, 7] rfl rfl
                                exact ih3 (y + 1) f66 (by omega) (by omega) (fun x hx => by
                                    rw [← ef66, nI_clamp (by omega)]
                                    simp only [upd, show ¬ x = 7 * dn + 7 + y by omega, if_false]
                                    exact hG3 x hx) (fun z hz => by
                                    rw [← ef66, nI_clamp (by omega)]
                                    by_cases e9 : z = y
                                    · subst e9; simp only [upd, if_true]; rw [gaft, if_neg (fun q => q.elim (fun r => c60 (congrArg nI r)) (fun r => c63 (congrArg nI r)))]; rfl
                                    · simp only [upd, show ¬ 7 * dn + 7 + z = 7 * dn + 7 + y by omega, if_false]; exact hC z (by omega)) _ _ _ hW (lv_sub hl [1, 2, 3, 4, 5, 6, 7, 8, 9, 0] rfl)
                              · refine lv_iload (pc := 230) hx hb dX12_gossips_230 (lv_at hl 8 rfl) ?_
                                refine lv_goto (tgt := 245) (pc := 232) hx hb dX12_gossips_232 rfl ?_
                                obtain ⟨f67, ef67⟩ : ∃ fz : Nat → Int32, upd G3 (nI (7 * dn + 7 + y)).toNatClampNeg (G (7 * dn + ea) ||| G (7 * dn + eb)) = fz := ⟨_, rfl⟩
                                refine r_iast (ws' := [(h0, .inr (12, [.int i0, .ref b1, .int i2, .int i3, .int i4, .int i5, .ref b6, .ref b7, .ref b8, .ref b9, .ref b10, .ref b11, .ref b12, .ref b13, .ref b14, .ref b15, .ref b16, .ref b17, .int i18, .int i19, .int i20, .ref b21, .ref b22, .ref b23, .ref b24, .ref b25, .ref b26, .int i27, .ref b28, .ref b29, .ref b30, .ref b31, .ref b32, .ref b33, .ref b34, .ref b35, .ref b36, .int i37, .int i38, .int i39, .int i40, .int i41, .int i42, .int i43, .int i44, .int i45, .ref b46, .ref b47, .ref b48, .ref b49, .ref b50, .ref b51, .ref b52, .ref b53, .ref b54, .ref b55, .ref b56, .ref b57, .ref b58, .ref b59, .ref b60, .ref b61, .ref b62, .ref b63])), (b6, .inl (g.2.1 1, 11, .inl P)), (b7, .inl (g.2.1 1, 11, .inl Lc)), (b12, .inl (g.2.1 1, 132, .inl La)), (b13, .inl (g.2.1 1, 132, .inl Lb)), (b48, .inl (g.2.1 3, 12, .inl lw)), (b46, .inl (g.2.1 1, 112, .inl f67)), (b47, .inl (g.2.1 1, 16, .inl gr))]) X hW 6 rfl (vp_in_nI (by omega) (by decide)) ef67 rfl dX12_gossips_245 (fun H locs hW => ?_)
                                refine lv_iinc (v := nI (y + 1)) (lv' := [(9, .int (nI (y + 1))), (0, .ref h0), (1, .int (nI v)), (2, .int (nI dn)), (3, .int 1), (4, .int (nI (7 * dn))), (5, .int 0), (6, .int (nI i)), (7, .int (nI (12 * v + i))), (8, .int (G (7 * dn + ea) ||| G (7 * dn + eb)))]) (pc := 246) hx hb dX12_gossips_246 hl (k := 9) rfl ((nI_succ y).symm) (by decide) rfl (fun ls hl => ?_)
                                refine lv_goto (tgt := 183) (pc := 249) hx hb dX12_gossips_249 rfl ?_
                                have hW : WD g A s _ _ [(h0, .inr (12, [.int i0, .ref b1, .int i2, .int i3, .int i4, .int i5, .ref b6, .ref b7, .ref b8, .ref b9, .ref b10, .ref b11, .ref b12, .ref b13, .ref b14, .ref b15, .ref b16, .ref b17, .int i18, .int i19, .int i20, .ref b21, .ref b22, .ref b23, .ref b24, .ref b25, .ref b26, .int i27, .ref b28, .ref b29, .ref b30, .ref b31, .ref b32, .ref b33, .ref b34, .ref b35, .ref b36, .int i37, .int i38, .int i39, .int i40, .int i41, .int i42, .int i43, .int i44, .int i45, .ref b46, .ref b47, .ref b48, .ref b49, .ref b50, .ref b51, .ref b52, .ref b53, .ref b54, .ref b55, .ref b56, .ref b57, .ref b58, .ref b59, .ref b60, .ref b61, .ref b62, .ref b63])), (b6, .inl (g.2.1 1, 11, .inl P)), (b7, .inl (g.2.1 1, 11, .inl Lc)), (b12, .inl (g.2.1 1, 132, .inl La)), (b13, .inl (g.2.1 1, 132, .inl Lb)), (b48, .inl (g.2.1 3, 12, .inl lw)), (b46, .inl (g.2.1 1, 112, .inl f67)), (b47, .inl (g.2.1 1, 16, .inl gr))] := hW.pick [0, 1, 2, 3, 4, 5, 6, 7] rfl rfl
                                exact ih3 (y + 1) f67 (by omega) (by omega) (fun x hx => by
                                    rw [← ef67, nI_clamp (by omega)]
                                    simp only [upd, show ¬ x = 7 * dn + 7 + y by omega, if_false]
                                    exact hG3 x hx) (fun z hz => by
                                    rw [← ef67, nI_clamp (by omega)]
                                    by_cases e9 : z = y
                                    · subst e9; simp only [upd, if_true]; rw [gaft, if_pos (Or.inr (nI_inj6 (by omega) (by omega) c63))]; rfl
                                    · simp only [upd, show ¬ 7 * dn + 7 + z = 7 * dn + 7 + y by omega, if_false]; exact hC z (by omega)) _ _ _ hW (lv_sub hl [1, 2, 3, 4, 5, 6, 7, 8, 9, 0] rfl)
                      exact loop3 (pp + 1) 0 G2 (by omega) (Nat.zero_le _) hG2 (fun z hz => absurd hz (Nat.not_lt_zero z)) _ _ _ hW (lv_sub hl [3, 4, 5, 6, 7, 8, 9, 2, 1, 0] rfl)
                    · refine lv_goto (tgt := 276) (pc := 177) hx hb dX12_gossips_177 rfl ?_
                      refine lv_iinc (v := nI (i + 1)) (lv' := [(6, .int (nI (i + 1))), (8, .int (G (7 * dn + ea) ||| G (7 * dn + eb))), (7, .int (nI (12 * v + i))), (0, .ref h0), (1, .int (nI v)), (2, .int (nI dn)), (3, .int 1), (4, .int (nI (7 * dn))), (5, .int 0)]) (pc := 276) hx hb dX12_gossips_276 hl (k := 8) rfl ((nI_succ i).symm) (by decide) rfl (fun ls hl => ?_)
                      refine lv_goto (tgt := 74) (pc := 279) hx hb dX12_gossips_279 rfl ?_
                      have hW : WD g A s _ _ [(h0, .inr (12, [.int i0, .ref b1, .int i2, .int i3, .int i4, .int i5, .ref b6, .ref b7, .ref b8, .ref b9, .ref b10, .ref b11, .ref b12, .ref b13, .ref b14, .ref b15, .ref b16, .ref b17, .int i18, .int i19, .int i20, .ref b21, .ref b22, .ref b23, .ref b24, .ref b25, .ref b26, .int i27, .ref b28, .ref b29, .ref b30, .ref b31, .ref b32, .ref b33, .ref b34, .ref b35, .ref b36, .int i37, .int i38, .int i39, .int i40, .int i41, .int i42, .int i43, .int i44, .int i45, .ref b46, .ref b47, .ref b48, .ref b49, .ref b50, .ref b51, .ref b52, .ref b53, .ref b54, .ref b55, .ref b56, .ref b57, .ref b58, .ref b59, .ref b60, .ref b61, .ref b62, .ref b63])), (b6, .inl (g.2.1 1, 11, .inl P)), (b7, .inl (g.2.1 1, 11, .inl Lc)), (b12, .inl (g.2.1 1, 132, .inl La)), (b13, .inl (g.2.1 1, 132, .inl Lb)), (b48, .inl (g.2.1 3, 12, .inl lw)), (b46, .inl (g.2.1 1, 112, .inl G2)), (b47, .inl (g.2.1 1, 16, .inl gr))] := hW.pick [0, 1, 2, 3, 4, 5, 6, 7] rfl rfl
                      exact ih2 (i + 1) G2 gr (by omega) (by omega) (hG2) hgr (gno_s hno (by omega) hea heb eA eB (fun ha9 hb9 hw9 hu9 => absurd ⟨h_eA, c47⟩ hu9)) _ _ _ hW (lv_sub hl [3, 4, 5, 6, 7, 8, 0] rfl)
          exact loop2 (lc + 1) 0 G gr0 (by omega) (Nat.zero_le _) (fun x hx => rfl) hg0 gno_0 _ _ _ hW (lv_sub hl [1, 2, 3, 4, 5, 6, 0] rfl)
      · have hkl : k < pp := ge_f (by omega) (by omega) c3
        refine lv_iload (pc := 23) hx hb dX12_gossips_23 (lv_at hl 5 rfl) ?_
        refine lv_if_eq (tgt := 50) (pc := 25) hx hb dX12_gossips_25 rfl (fun c68 => ?_) (fun c68 => ?_)
        · refine lv_iconst (v := 0) (pc := 50) hx hb dX12_gossips_50 (by decide) ?_
          refine lv_istore (lv' := [(5, .int 0), (0, .ref h0), (1, .int (nI v)), (2, .int (nI dn)), (3, .int 1), (4, .int (nI (7 * dn))), (6, .int (nI k))]) (pc := 51) hx hb dX12_gossips_51 hl (by decide) rfl (fun ls hl => ?_)
          refine lv_iinc (v := nI (k + 1)) (lv' := [(6, .int (nI (k + 1))), (5, .int 0), (0, .ref h0), (1, .int (nI v)), (2, .int (nI dn)), (3, .int 1), (4, .int (nI (7 * dn)))]) (pc := 53) hx hb dX12_gossips_53 hl (k := 6) rfl ((nI_succ k).symm) (by decide) rfl (fun ls hl => ?_)
          refine lv_goto (tgt := 12) (pc := 56) hx hb dX12_gossips_56 rfl ?_
          have hW : WD g A s _ _ [(h0, .inr (12, [.int i0, .ref b1, .int i2, .int i3, .int i4, .int i5, .ref b6, .ref b7, .ref b8, .ref b9, .ref b10, .ref b11, .ref b12, .ref b13, .ref b14, .ref b15, .ref b16, .ref b17, .int i18, .int i19, .int i20, .ref b21, .ref b22, .ref b23, .ref b24, .ref b25, .ref b26, .int i27, .ref b28, .ref b29, .ref b30, .ref b31, .ref b32, .ref b33, .ref b34, .ref b35, .ref b36, .int i37, .int i38, .int i39, .int i40, .int i41, .int i42, .int i43, .int i44, .int i45, .ref b46, .ref b47, .ref b48, .ref b49, .ref b50, .ref b51, .ref b52, .ref b53, .ref b54, .ref b55, .ref b56, .ref b57, .ref b58, .ref b59, .ref b60, .ref b61, .ref b62, .ref b63])), (b6, .inl (g.2.1 1, 11, .inl P)), (b7, .inl (g.2.1 1, 11, .inl Lc)), (b12, .inl (g.2.1 1, 132, .inl La)), (b13, .inl (g.2.1 1, 132, .inl Lb)), (b48, .inl (g.2.1 3, 12, .inl lw)), (b46, .inl (g.2.1 1, 112, .inl G)), (b47, .inl (g.2.1 1, 16, .inl gr0))] := hW.pick [0, 1, 2, 3, 4, 5, 6, 7] rfl rfl
          exact ih1 (k + 1) 0 (by omega) (by omega) (Or.inr ⟨rfl, (hal.resolve_left (fun r => absurd (r.1.symm.trans c68) (by decide))).2⟩) _ _ _ hW (lv_sub hl [2, 3, 4, 5, 6, 1, 0] rfl)
        · have hal9 : ¬ al = 0 := c68
          have hal1 : ¬ al = 0 → ∀ o : Nat, o < k → (rwt G dn) o = evy (nI pp) := fun q => (hal.resolve_right (fun r => q r.1)).2
          refine lv_aload_n (pc := 28) hx hb dX12_gossips_28 rfl (lv_at hl 0 rfl) ?_
          refine r_get X hW 0 ciX12 46 rfl (by decide) m_1273 rfl rfl dX12_gossips_29 ?_
          refine lv_iload (pc := 32) hx hb dX12_gossips_32 (lv_at hl 4 rfl) ?_
          refine lv_iload (pc := 34) hx hb dX12_gossips_34 (lv_at hl 6 rfl) ?_
          refine lv_iadd (pc := 36) hx hb dX12_gossips_36 ?_
          refine lv_topi (fun uv69 euv69 => ?_)
          obtain rfl : uv69 = nI (7 * dn + k) := euv69.trans (nI_add _ _)
          refine r_iald X hW 6 rfl (vp_in_nI (by omega) (by decide)) dX12_gossips_37 ?_
          refine lv_topi (fun uv70 euv70 => ?_)
          obtain rfl : uv70 = G (7 * dn + k) := euv70.trans (by rw [nI_clamp (by omega)])
          refine lv_aload_n (pc := 38) hx hb dX12_gossips_38 rfl (lv_at hl 0 rfl) ?_
          refine lv_iload_n (pc := 39) hx hb dX12_gossips_39 rfl (lv_at hl 1 rfl) ?_
          refine c_Vi (pc := 40) (As := [.int (nI v)]) (rest := [.int (G (7 * dn + k))]) (wr := [(b7, .inl (g.2.1 1, 11, .inl Lc)), (b12, .inl (g.2.1 1, 132, .inl La)), (b13, .inl (g.2.1 1, 132, .inl Lb)), (b48, .inl (g.2.1 3, 12, .inl lw)), (b46, .inl (g.2.1 1, 112, .inl G)), (b47, .inl (g.2.1 1, 16, .inl gr0))]) X hW 0 ciX12 rfl (C_X12_everybodyG l g h0 b1 b6 b7 b8 b9 b10 b11 b12 b13 b14 b15 b16 b17 b21 b22 b23 b24 b25 b26 b28 b29 b30 b31 b32 b33 b34 b35 b36 b46 b47 b48 b49 b50 b51 b52 b53 b54 b55 b56 b57 b58 b59 b60 b61 b62 b63 i0 i2 i3 i4 i5 i18 i19 i20 i27 i37 i38 i39 i40 i41 i42 i43 i44 i45 P v (by omega)) vX12_274 [0, 1] [2, 3, 4, 5, 6, 7] rfl rfl rfl rfl rfl rfl hl.1 rfl (Nat.le_of_ble_eq_true rfl) ⟨Nat.le_of_ble_eq_true rfl, Nat.le_of_ble_eq_true rfl⟩ ⟨Nat.le_of_ble_eq_true rfl, Nat.le_of_ble_eq_true rfl⟩ dX12_gossips_40 (fun r71 u9 H locs hq hW => ?_)
          obtain ⟨rfl, rfl⟩ := hq
          have hW : WD g A s _ _ [(b7, .inl (g.2.1 1, 11, .inl Lc)), (b12, .inl (g.2.1 1, 132, .inl La)), (b13, .inl (g.2.1 1, 132, .inl Lb)), (b48, .inl (g.2.1 3, 12, .inl lw)), (b46, .inl (g.2.1 1, 112, .inl G)), (b47, .inl (g.2.1 1, 16, .inl gr0)), (h0, .inr (12, [.int i0, .ref b1, .int i2, .int i3, .int i4, .int i5, .ref b6, .ref b7, .ref b8, .ref b9, .ref b10, .ref b11, .ref b12, .ref b13, .ref b14, .ref b15, .ref b16, .ref b17, .int i18, .int i19, .int i20, .ref b21, .ref b22, .ref b23, .ref b24, .ref b25, .ref b26, .int i27, .ref b28, .ref b29, .ref b30, .ref b31, .ref b32, .ref b33, .ref b34, .ref b35, .ref b36, .int i37, .int i38, .int i39, .int i40, .int i41, .int i42, .int i43, .int i44, .int i45, .ref b46, .ref b47, .ref b48, .ref b49, .ref b50, .ref b51, .ref b52, .ref b53, .ref b54, .ref b55, .ref b56, .ref b57, .ref b58, .ref b59, .ref b60, .ref b61, .ref b62, .ref b63])), (b6, .inl (g.2.1 1, 11, .inl P))] := hW
          refine lv_icmp_ne (tgt := 50) (pc := 43) hx hb dX12_gossips_43 rfl (fun c72 => ?_) (fun c72 => ?_)
          · refine lv_iconst (v := 0) (pc := 50) hx hb dX12_gossips_50 (by decide) ?_
            refine lv_istore (lv' := [(5, .int 0), (0, .ref h0), (1, .int (nI v)), (2, .int (nI dn)), (3, .int 1), (4, .int (nI (7 * dn))), (6, .int (nI k))]) (pc := 51) hx hb dX12_gossips_51 hl (by decide) rfl (fun ls hl => ?_)
            refine lv_iinc (v := nI (k + 1)) (lv' := [(6, .int (nI (k + 1))), (5, .int 0), (0, .ref h0), (1, .int (nI v)), (2, .int (nI dn)), (3, .int 1), (4, .int (nI (7 * dn)))]) (pc := 53) hx hb dX12_gossips_53 hl (k := 6) rfl ((nI_succ k).symm) (by decide) rfl (fun ls hl => ?_)
            refine lv_goto (tgt := 12) (pc := 56) hx hb dX12_gossips_56 rfl ?_
            have hW : WD g A s _ _ [(h0, .inr (12, [.int i0, .ref b1, .int i2, .int i3, .int i4, .int i5, .ref b6, .ref b7, .ref b8, .ref b9, .ref b10, .ref b11, .ref b12, .ref b13, .ref b14, .ref b15, .ref b16, .ref b17, .int i18, .int i19, .int i20, .ref b21, .ref b22, .ref b23, .ref b24, .ref b25, .ref b26, .int i27, .ref b28, .ref b29, .ref b30, .ref b31, .ref b32, .ref b33, .ref b34, .ref b35, .ref b36, .int i37, .int i38, .int i39, .int i40, .int i41, .int i42, .int i43, .int i44, .int i45, .ref b46, .ref b47, .ref b48, .ref b49, .ref b50, .ref b51, .ref b52, .ref b53, .ref b54, .ref b55, .ref b56, .ref b57, .ref b58, .ref b59, .ref b60, .ref b61, .ref b62, .ref b63])), (b6, .inl (g.2.1 1, 11, .inl P)), (b7, .inl (g.2.1 1, 11, .inl Lc)), (b12, .inl (g.2.1 1, 132, .inl La)), (b13, .inl (g.2.1 1, 132, .inl Lb)), (b48, .inl (g.2.1 3, 12, .inl lw)), (b46, .inl (g.2.1 1, 112, .inl G)), (b47, .inl (g.2.1 1, 16, .inl gr0))] := hW.pick [6, 7, 0, 1, 2, 3, 4, 5] rfl rfl
            exact ih1 (k + 1) 0 (by omega) (by omega) (Or.inr ⟨rfl, (fun q => c72 (by have := q k hkl; rw [hP]; exact this))⟩) _ _ _ hW (lv_sub hl [2, 3, 4, 5, 6, 1, 0] rfl)
          · refine lv_iconst (v := 1) (pc := 46) hx hb dX12_gossips_46 (by decide) ?_
            refine lv_goto (tgt := 51) (pc := 47) hx hb dX12_gossips_47 rfl ?_
            refine lv_istore (lv' := [(5, .int 1), (0, .ref h0), (1, .int (nI v)), (2, .int (nI dn)), (3, .int 1), (4, .int (nI (7 * dn))), (6, .int (nI k))]) (pc := 51) hx hb dX12_gossips_51 hl (by decide) rfl (fun ls hl => ?_)
            refine lv_iinc (v := nI (k + 1)) (lv' := [(6, .int (nI (k + 1))), (5, .int 1), (0, .ref h0), (1, .int (nI v)), (2, .int (nI dn)), (3, .int 1), (4, .int (nI (7 * dn)))]) (pc := 53) hx hb dX12_gossips_53 hl (k := 6) rfl ((nI_succ k).symm) (by decide) rfl (fun ls hl => ?_)
            refine lv_goto (tgt := 12) (pc := 56) hx hb dX12_gossips_56 rfl ?_
            have hW : WD g A s _ _ [(h0, .inr (12, [.int i0, .ref b1, .int i2, .int i3, .int i4, .int i5, .ref b6, .ref b7, .ref b8, .ref b9, .ref b10, .ref b11, .ref b12, .ref b13, .ref b14, .ref b15, .ref b16, .ref b17, .int i18, .int i19, .int i20, .ref b21, .ref b22, .ref b23, .ref b24, .ref b25, .ref b26, .int i27, .ref b28, .ref b29, .ref b30, .ref b31, .ref b32, .ref b33, .ref b34, .ref b35, .ref b36, .int i37, .int i38, .int i39, .int i40, .int i41, .int i42, .int i43, .int i44, .int i45, .ref b46, .ref b47, .ref b48, .ref b49, .ref b50, .ref b51, .ref b52, .ref b53, .ref b54, .ref b55, .ref b56, .ref b57, .ref b58, .ref b59, .ref b60, .ref b61, .ref b62, .ref b63])), (b6, .inl (g.2.1 1, 11, .inl P)), (b7, .inl (g.2.1 1, 11, .inl Lc)), (b12, .inl (g.2.1 1, 132, .inl La)), (b13, .inl (g.2.1 1, 132, .inl Lb)), (b48, .inl (g.2.1 3, 12, .inl lw)), (b46, .inl (g.2.1 1, 112, .inl G)), (b47, .inl (g.2.1 1, 16, .inl gr0))] := hW.pick [6, 7, 0, 1, 2, 3, 4, 5] rfl rfl
            exact ih1 (k + 1) 1 (by omega) (by omega) (Or.inl ⟨rfl, gall_s (p := pp) (hal1 hal9) (by show G (7 * dn + k) = _; rw [c72, hP])⟩) _ _ _ hW (lv_sub hl [2, 3, 4, 5, 6, 1, 0] rfl)
  exact loop1 (pp + 1) 0 1 (by omega) (Nat.zero_le _) (Or.inl ⟨rfl, fun o ho => absurd ho (Nat.not_lt_zero o)⟩) _ _ _ hW (lv_sub hl [3, 4, 5, 6, 2, 1, 0] rfl)

set_option maxHeartbeats 40000000 in
set_option maxRecDepth 100000 in
theorem C_X12_gossips_2 (l : Launch) (g : GG) (h0 b1 b6 b7 b8 b9 b10 b11 b12 b13 b14 b15 b16 b17 b21 b22 b23 b24 b25 b26 b28 b29 b30 b31 b32 b33 b34 b35 b36 b46 b47 b48 b49 b50 b51 b52 b53 b54 b55 b56 b57 b58 b59 b60 b61 b62 b63 : Nat) (i0 i2 i3 i4 i5 i18 i19 i20 i27 i37 i38 i39 i40 i41 i42 i43 i44 i45 : Int32) (P Lc La Lb lw G gr0 : Nat → Int32) (v lc pp dn : Nat) (hv : v ≤ 10) (hlc : lc ≤ 12) (hpp : pp ≤ 7) (hP : P v = nI pp) (hLc : Lc v = nI lc) (hLA : in6 La) (hLB : in6 Lb) (hg0 : gb16 gr0) (hdn : dn + 2 ≤ 15) : MetI l g yX12_gossips cX12_gossips 10 (some .boolean) 3 0 0 [.ref h0, .int (nI v), .int (nI dn), .int 2] [(h0, .inr (12, [.int i0, .ref b1, .int i2, .int i3, .int i4, .int i5, .ref b6, .ref b7, .ref b8, .ref b9, .ref b10, .ref b11, .ref b12, .ref b13, .ref b14, .ref b15, .ref b16, .ref b17, .int i18, .int i19, .int i20, .ref b21, .ref b22, .ref b23, .ref b24, .ref b25, .ref b26, .int i27, .ref b28, .ref b29, .ref b30, .ref b31, .ref b32, .ref b33, .ref b34, .ref b35, .ref b36, .int i37, .int i38, .int i39, .int i40, .int i41, .int i42, .int i43, .int i44, .int i45, .ref b46, .ref b47, .ref b48, .ref b49, .ref b50, .ref b51, .ref b52, .ref b53, .ref b54, .ref b55, .ref b56, .ref b57, .ref b58, .ref b59, .ref b60, .ref b61, .ref b62, .ref b63])), (b6, .inl (g.2.1 1, 11, .inl P)), (b7, .inl (g.2.1 1, 11, .inl Lc)), (b12, .inl (g.2.1 1, 132, .inl La)), (b13, .inl (g.2.1 1, 132, .inl Lb)), (b48, .inl (g.2.1 3, 12, .inl lw)), (b46, .inl (g.2.1 1, 112, .inl G)), (b47, .inl (g.2.1 1, 16, .inl gr0))] (fun r u => ∃ G' gr' : Nat → Int32, (r = 0 ∨ r = 1) ∧ (gok (gV La Lb lw v lc) pp (evy (nI pp)) 2 (rwt G dn) → r = 1) ∧ (∀ x : Nat, x < 7 * (dn + 1) → G' x = G x) ∧ gb16 gr' ∧ u = [(h0, .inr (12, [.int i0, .ref b1, .int i2, .int i3, .int i4, .int i5, .ref b6, .ref b7, .ref b8, .ref b9, .ref b10, .ref b11, .ref b12, .ref b13, .ref b14, .ref b15, .ref b16, .ref b17, .int i18, .int i19, .int i20, .ref b21, .ref b22, .ref b23, .ref b24, .ref b25, .ref b26, .int i27, .ref b28, .ref b29, .ref b30, .ref b31, .ref b32, .ref b33, .ref b34, .ref b35, .ref b36, .int i37, .int i38, .int i39, .int i40, .int i41, .int i42, .int i43, .int i44, .int i45, .ref b46, .ref b47, .ref b48, .ref b49, .ref b50, .ref b51, .ref b52, .ref b53, .ref b54, .ref b55, .ref b56, .ref b57, .ref b58, .ref b59, .ref b60, .ref b61, .ref b62, .ref b63])), (b6, .inl (g.2.1 1, 11, .inl P)), (b7, .inl (g.2.1 1, 11, .inl Lc)), (b12, .inl (g.2.1 1, 132, .inl La)), (b13, .inl (g.2.1 1, 132, .inl Lb)), (b48, .inl (g.2.1 3, 12, .inl lw)), (b46, .inl (g.2.1 1, 112, .inl G')), (b47, .inl (g.2.1 1, 16, .inl gr'))]) := by
  refine MetI.of (own := RX12) rfl (by decide) (Nat.le_of_ble_eq_true rfl) ?_
  intro p e s m below meth c A ls args Q hQ X hr hin hW hl
  have hx := X.1
  have hb := X.2.1
  have hl : lv_has ls 10 [(0, .ref h0), (1, .int (nI v)), (2, .int (nI dn)), (3, .int 2)] := hl
  refine lv_bipush (v := 7) (pc := 0) hx hb dX12_gossips_0 (by decide) ?_
  refine lv_iload_n (pc := 2) hx hb dX12_gossips_2 rfl (lv_at hl 2 rfl) ?_
  refine lv_imul (pc := 3) hx hb dX12_gossips_3 ?_
  refine lv_topi (fun uv1 euv1 => ?_)
  obtain rfl : uv1 = nI (7 * dn) := euv1.trans (pk_mul _ _)
  refine lv_istore (lv' := [(4, .int (nI (7 * dn))), (0, .ref h0), (1, .int (nI v)), (2, .int (nI dn)), (3, .int 2)]) (pc := 4) hx hb dX12_gossips_4 hl (by decide) rfl (fun ls hl => ?_)
  refine lv_iconst (v := 1) (pc := 6) hx hb dX12_gossips_6 (by decide) ?_
  refine lv_istore (lv' := [(5, .int 1), (4, .int (nI (7 * dn))), (0, .ref h0), (1, .int (nI v)), (2, .int (nI dn)), (3, .int 2)]) (pc := 7) hx hb dX12_gossips_7 hl (by decide) rfl (fun ls hl => ?_)
  refine lv_iconst (v := 0) (pc := 9) hx hb dX12_gossips_9 (by decide) ?_
  refine lv_istore (lv' := [(6, .int 0), (5, .int 1), (4, .int (nI (7 * dn))), (0, .ref h0), (1, .int (nI v)), (2, .int (nI dn)), (3, .int 2)]) (pc := 10) hx hb dX12_gossips_10 hl (by decide) rfl (fun ls hl => ?_)
  have loop1 : ∀ (fu : Nat) (k : Nat) (al : Int32), (pp < fu + k) → (k ≤ pp) → ((al = 1 ∧ ∀ o : Nat, o < k → (rwt G dn) o = evy (nI pp)) ∨ (al = 0 ∧ ¬ gall pp (evy (nI pp)) (rwt G dn))) → ∀ (H : Heap) (locs : List Loc) (ls : Array Slot), WD g A s H locs [(h0, .inr (12, [.int i0, .ref b1, .int i2, .int i3, .int i4, .int i5, .ref b6, .ref b7, .ref b8, .ref b9, .ref b10, .ref b11, .ref b12, .ref b13, .ref b14, .ref b15, .ref b16, .ref b17, .int i18, .int i19, .int i20, .ref b21, .ref b22, .ref b23, .ref b24, .ref b25, .ref b26, .int i27, .ref b28, .ref b29, .ref b30, .ref b31, .ref b32, .ref b33, .ref b34, .ref b35, .ref b36, .int i37, .int i38, .int i39, .int i40, .int i41, .int i42, .int i43, .int i44, .int i45, .ref b46, .ref b47, .ref b48, .ref b49, .ref b50, .ref b51, .ref b52, .ref b53, .ref b54, .ref b55, .ref b56, .ref b57, .ref b58, .ref b59, .ref b60, .ref b61, .ref b62, .ref b63])), (b6, .inl (g.2.1 1, 11, .inl P)), (b7, .inl (g.2.1 1, 11, .inl Lc)), (b12, .inl (g.2.1 1, 132, .inl La)), (b13, .inl (g.2.1 1, 132, .inl Lb)), (b48, .inl (g.2.1 3, 12, .inl lw)), (b46, .inl (g.2.1 1, 112, .inl G)), (b47, .inl (g.2.1 1, 16, .inl gr0))] → lv_has ls 10 [(0, .ref h0), (1, .int (nI v)), (2, .int (nI dn)), (3, .int 2), (4, .int (nI (7 * dn))), (5, .int al), (6, .int (nI k))] → W p l e (RM 3 0 0) s m args below meth c H locs 0 0 Q (F0 m 12 ls []) := by
    intro fu
    induction fu with
    | zero =>
      intro k al hm hk hal
      exact absurd hm (by omega)
    | succ fu ih1 =>
      intro k al hm hk hal H locs ls hW hl
      refine lv_iload (pc := 12) hx hb dX12_gossips_12 (lv_at hl 6 rfl) ?_
      refine lv_aload_n (pc := 14) hx hb dX12_gossips_14 rfl (lv_at hl 0 rfl) ?_
      refine r_get X hW 0 ciX12 6 rfl (by decide) m_1237 rfl rfl dX12_gossips_15 ?_
      refine lv_iload_n (pc := 18) hx hb dX12_gossips_18 rfl (lv_at hl 1 rfl) ?_
      refine r_iald X hW 1 rfl (vp_in_nI (by omega) (by decide)) dX12_gossips_19 ?_
      refine lv_topi (fun uv2 euv2 => ?_)
      obtain rfl : uv2 = nI pp := euv2.trans (by rw [nI_clamp (by omega)]; exact hP)
      refine lv_icmp_ge (tgt := 59) (pc := 20) hx hb dX12_gossips_20 rfl (fun c3 => ?_) (fun c3 => ?_)
      · have hkp : k = pp := Nat.le_antisymm hk (ge_t (by omega) (by omega) c3)
        rw [hkp] at hal
        rcases hal with ⟨ha1, hal⟩ | ⟨ha1, hal⟩
        · subst ha1
          refine lv_iload (pc := 59) hx hb dX12_gossips_59 (lv_at hl 5 rfl) ?_
          refine lv_if_ne (tgt := 68) (pc := 61) hx hb dX12_gossips_61 rfl (fun c4 => ?_) (fun c4 => absurd c4 (by decide))
          refine lv_iload (pc := 68) hx hb dX12_gossips_68 (lv_at hl 5 rfl) ?_
          exact e_z X hQ hr hW (u := [(h0, .inr (12, [.int i0, .ref b1, .int i2, .int i3, .int i4, .int i5, .ref b6, .ref b7, .ref b8, .ref b9, .ref b10, .ref b11, .ref b12, .ref b13, .ref b14, .ref b15, .ref b16, .ref b17, .int i18, .int i19, .int i20, .ref b21, .ref b22, .ref b23, .ref b24, .ref b25, .ref b26, .int i27, .ref b28, .ref b29, .ref b30, .ref b31, .ref b32, .ref b33, .ref b34, .ref b35, .ref b36, .int i37, .int i38, .int i39, .int i40, .int i41, .int i42, .int i43, .int i44, .int i45, .ref b46, .ref b47, .ref b48, .ref b49, .ref b50, .ref b51, .ref b52, .ref b53, .ref b54, .ref b55, .ref b56, .ref b57, .ref b58, .ref b59, .ref b60, .ref b61, .ref b62, .ref b63])), (b6, .inl (g.2.1 1, 11, .inl P)), (b7, .inl (g.2.1 1, 11, .inl Lc)), (b12, .inl (g.2.1 1, 132, .inl La)), (b13, .inl (g.2.1 1, 132, .inl Lb)), (b48, .inl (g.2.1 3, 12, .inl lw)), (b46, .inl (g.2.1 1, 112, .inl G)), (b47, .inl (g.2.1 1, 16, .inl gr0))]) rfl [0, 1, 2, 3, 4, 5, 6, 7] rfl rfl (⟨_, _, Or.inr rfl, fun _ => rfl, fun x hx => rfl, hg0, rfl⟩) ⟨Nat.le_of_ble_eq_true rfl, Nat.le_of_ble_eq_true rfl⟩ dX12_gossips_70
        · subst ha1
          refine lv_iload (pc := 59) hx hb dX12_gossips_59 (lv_at hl 5 rfl) ?_
          refine lv_if_ne (tgt := 68) (pc := 61) hx hb dX12_gossips_61 rfl (fun c5 => absurd (by decide) c5) (fun c5 => ?_)
          refine lv_iload_n (pc := 64) hx hb dX12_gossips_64 rfl (lv_at hl 3 rfl) ?_
          refine lv_if_ne (tgt := 71) (pc := 65) hx hb dX12_gossips_65 rfl (fun c6 => ?_) (fun c6 => absurd c6 (by decide))
          refine lv_iconst (v := 0) (pc := 71) hx hb dX12_gossips_71 (by decide) ?_
          refine lv_istore (lv' := [(6, .int 0), (0, .ref h0), (1, .int (nI v)), (2, .int (nI dn)), (3, .int 2), (4, .int (nI (7 * dn))), (5, .int 0)]) (pc := 72) hx hb dX12_gossips_72 hl (by decide) rfl (fun ls hl => ?_)
          have hW : WD g A s _ _ [(h0, .inr (12, [.int i0, .ref b1, .int i2, .int i3, .int i4, .int i5, .ref b6, .ref b7, .ref b8, .ref b9, .ref b10, .ref b11, .ref b12, .ref b13, .ref b14, .ref b15, .ref b16, .ref b17, .int i18, .int i19, .int i20, .ref b21, .ref b22, .ref b23, .ref b24, .ref b25, .ref b26, .int i27, .ref b28, .ref b29, .ref b30, .ref b31, .ref b32, .ref b33, .ref b34, .ref b35, .ref b36, .int i37, .int i38, .int i39, .int i40, .int i41, .int i42, .int i43, .int i44, .int i45, .ref b46, .ref b47, .ref b48, .ref b49, .ref b50, .ref b51, .ref b52, .ref b53, .ref b54, .ref b55, .ref b56, .ref b57, .ref b58, .ref b59, .ref b60, .ref b61, .ref b62, .ref b63])), (b6, .inl (g.2.1 1, 11, .inl P)), (b7, .inl (g.2.1 1, 11, .inl Lc)), (b12, .inl (g.2.1 1, 132, .inl La)), (b13, .inl (g.2.1 1, 132, .inl Lb)), (b48, .inl (g.2.1 3, 12, .inl lw)), (b46, .inl (g.2.1 1, 112, .inl G)), (b47, .inl (g.2.1 1, 16, .inl gr0))] := hW.pick [0, 1, 2, 3, 4, 5, 6, 7] rfl rfl
          have loop2 : ∀ (fv : Nat) (i : Nat) (G2 : Nat → Int32) (gr : Nat → Int32), (lc < fv + i) → (i ≤ lc) → (∀ x : Nat, x < 7 * (dn + 1) → G2 x = G x) → (gb16 gr) → (gno La Lb lw v lc pp (evy (nI pp)) 1 (rwt G dn) i) → ∀ (H : Heap) (locs : List Loc) (ls : Array Slot), WD g A s H locs [(h0, .inr (12, [.int i0, .ref b1, .int i2, .int i3, .int i4, .int i5, .ref b6, .ref b7, .ref b8, .ref b9, .ref b10, .ref b11, .ref b12, .ref b13, .ref b14, .ref b15, .ref b16, .ref b17, .int i18, .int i19, .int i20, .ref b21, .ref b22, .ref b23, .ref b24, .ref b25, .ref b26, .int i27, .ref b28, .ref b29, .ref b30, .ref b31, .ref b32, .ref b33, .ref b34, .ref b35, .ref b36, .int i37, .int i38, .int i39, .int i40, .int i41, .int i42, .int i43, .int i44, .int i45, .ref b46, .ref b47, .ref b48, .ref b49, .ref b50, .ref b51, .ref b52, .ref b53, .ref b54, .ref b55, .ref b56, .ref b57, .ref b58, .ref b59, .ref b60, .ref b61, .ref b62, .ref b63])), (b6, .inl (g.2.1 1, 11, .inl P)), (b7, .inl (g.2.1 1, 11, .inl Lc)), (b12, .inl (g.2.1 1, 132, .inl La)), (b13, .inl (g.2.1 1, 132, .inl Lb)), (b48, .inl (g.2.1 3, 12, .inl lw)), (b46, .inl (g.2.1 1, 112, .inl G2)), (b47, .inl (g.2.1 1, 16, .inl gr))] → lv_has ls 10 [(0, .ref h0), (1, .int (nI v)), (2, .int (nI dn)), (3, .int 2), (4, .int (nI (7 * dn))), (5, .int 0), (6, .int (nI i))] → W p l e (RM 3 0 0) s m args below meth c H locs 0 0 Q (F0 m 74 ls []) := by
            intro fv
            induction fv with
            | zero =>
              intro i G2 gr hm2 hi hG2 hgr hno
              exact absurd hm2 (by omega)
            | succ fv ih2 =>
              intro i G2 gr hm2 hi hG2 hgr hno H locs ls hW hl
              refine lv_iload (pc := 74) hx hb dX12_gossips_74 (lv_at hl 6 rfl) ?_
              refine lv_aload_n (pc := 76) hx hb dX12_gossips_76 rfl (lv_at hl 0 rfl) ?_
              refine r_get X hW 0 ciX12 7 rfl (by decide) m_1238 rfl rfl dX12_gossips_77 ?_
              refine lv_iload_n (pc := 80) hx hb dX12_gossips_80 rfl (lv_at hl 1 rfl) ?_
              refine r_iald X hW 2 rfl (vp_in_nI (by omega) (by decide)) dX12_gossips_81 ?_
              refine lv_topi (fun uv7 euv7 => ?_)
              obtain rfl : uv7 = nI lc := euv7.trans (by rw [nI_clamp (by omega)]; exact hLc)
              refine lv_icmp_ge (tgt := 282) (pc := 82) hx hb dX12_gossips_82 rfl (fun c8 => ?_) (fun c8 => ?_)
              · have hie : i = lc := Nat.le_antisymm hi (ge_t (by omega) (by omega) c8)
                refine lv_iconst (v := 0) (pc := 282) hx hb dX12_gossips_282 (by decide) ?_
                exact e_z X hQ hr hW (u := [(h0, .inr (12, [.int i0, .ref b1, .int i2, .int i3, .int i4, .int i5, .ref b6, .ref b7, .ref b8, .ref b9, .ref b10, .ref b11, .ref b12, .ref b13, .ref b14, .ref b15, .ref b16, .ref b17, .int i18, .int i19, .int i20, .ref b21, .ref b22, .ref b23, .ref b24, .ref b25, .ref b26, .int i27, .ref b28, .ref b29, .ref b30, .ref b31, .ref b32, .ref b33, .ref b34, .ref b35, .ref b36, .int i37, .int i38, .int i39, .int i40, .int i41, .int i42, .int i43, .int i44, .int i45, .ref b46, .ref b47, .ref b48, .ref b49, .ref b50, .ref b51, .ref b52, .ref b53, .ref b54, .ref b55, .ref b56, .ref b57, .ref b58, .ref b59, .ref b60, .ref b61, .ref b62, .ref b63])), (b6, .inl (g.2.1 1, 11, .inl P)), (b7, .inl (g.2.1 1, 11, .inl Lc)), (b12, .inl (g.2.1 1, 132, .inl La)), (b13, .inl (g.2.1 1, 132, .inl Lb)), (b48, .inl (g.2.1 3, 12, .inl lw)), (b46, .inl (g.2.1 1, 112, .inl G2)), (b47, .inl (g.2.1 1, 16, .inl gr))]) rfl [0, 1, 2, 3, 4, 5, 6, 7] rfl rfl (⟨_, _, Or.inl rfl, fun q => absurd q (gno_end hno hie hal), hG2, hgr, rfl⟩) ⟨Nat.le_of_ble_eq_true rfl, Nat.le_of_ble_eq_true rfl⟩ dX12_gossips_283
              · have hil : i < lc := ge_f (by omega) (by omega) c8
                obtain ⟨ea, hea, eA⟩ := hLA (12 * v + i) (by omega)
                obtain ⟨eb, heb, eB⟩ := hLB (12 * v + i) (by omega)
                refine lv_bipush (v := 12) (pc := 85) hx hb dX12_gossips_85 (by decide) ?_
                refine lv_iload_n (pc := 87) hx hb dX12_gossips_87 rfl (lv_at hl 1 rfl) ?_
                refine lv_imul (pc := 88) hx hb dX12_gossips_88 ?_
                refine lv_topi (fun uv9 euv9 => ?_)
                obtain rfl : uv9 = nI (12 * v) := euv9.trans (pk_mul _ _)
                refine lv_iload (pc := 89) hx hb dX12_gossips_89 (lv_at hl 6 rfl) ?_
                refine lv_iadd (pc := 91) hx hb dX12_gossips_91 ?_
                refine lv_topi (fun uv10 euv10 => ?_)
                obtain rfl : uv10 = nI (12 * v + i) := euv10.trans (nI_add _ _)
                refine lv_istore (lv' := [(7, .int (nI (12 * v + i))), (0, .ref h0), (1, .int (nI v)), (2, .int (nI dn)), (3, .int 2), (4, .int (nI (7 * dn))), (5, .int 0), (6, .int (nI i))]) (pc := 92) hx hb dX12_gossips_92 hl (by decide) rfl (fun ls hl => ?_)
                refine lv_aload_n (pc := 94) hx hb dX12_gossips_94 rfl (lv_at hl 1 rfl) ?_
                refine r_get X hW 0 ciX12 46 rfl (by decide) m_1273 rfl rfl dX12_gossips_95 ?_
                refine lv_iload (pc := 98) hx hb dX12_gossips_98 (lv_at hl 5 rfl) ?_
                refine lv_aload_n (pc := 100) hx hb dX12_gossips_100 rfl (lv_at hl 1 rfl) ?_
                refine r_get X hW 0 ciX12 12 rfl (by decide) m_1243 rfl rfl dX12_gossips_101 ?_
                refine lv_iload (pc := 104) hx hb dX12_gossips_104 (lv_at hl 0 rfl) ?_
                refine r_iald X hW 3 rfl (vp_in_nI (by omega) (by decide)) dX12_gossips_106 ?_
                refine lv_topi (fun uv11 euv11 => ?_)
                obtain rfl : uv11 = nI ea := euv11.trans (by rw [nI_clamp (by omega)]; exact eA)
                refine lv_iadd (pc := 107) hx hb dX12_gossips_107 ?_
                refine lv_topi (fun uv12 euv12 => ?_)
                obtain rfl : uv12 = nI (7 * dn + ea) := euv12.trans (nI_add _ _)
                refine r_iald X hW 6 rfl (vp_in_nI (by omega) (by decide)) dX12_gossips_108 ?_
                refine lv_topi (fun uv13 euv13 => ?_)
                obtain rfl : uv13 = G (7 * dn + ea) := euv13.trans (by rw [nI_clamp (by omega)]; exact hG2 _ (by omega))
                refine lv_aload_n (pc := 109) hx hb dX12_gossips_109 rfl (lv_at hl 1 rfl) ?_
                refine r_get X hW 0 ciX12 46 rfl (by decide) m_1273 rfl rfl dX12_gossips_110 ?_
                refine lv_iload (pc := 113) hx hb dX12_gossips_113 (lv_at hl 5 rfl) ?_
                refine lv_aload_n (pc := 115) hx hb dX12_gossips_115 rfl (lv_at hl 1 rfl) ?_
                refine r_get X hW 0 ciX12 13 rfl (by decide) m_1244 rfl rfl dX12_gossips_116 ?_
                refine lv_iload (pc := 119) hx hb dX12_gossips_119 (lv_at hl 0 rfl) ?_
                refine r_iald X hW 4 rfl (vp_in_nI (by omega) (by decide)) dX12_gossips_121 ?_
                refine lv_topi (fun uv14 euv14 => ?_)
                obtain rfl : uv14 = nI eb := euv14.trans (by rw [nI_clamp (by omega)]; exact eB)
                refine lv_iadd (pc := 122) hx hb dX12_gossips_122 ?_
                refine lv_topi (fun uv15 euv15 => ?_)
                obtain rfl : uv15 = nI (7 * dn + eb) := euv15.trans (nI_add _ _)
                refine r_iald X hW 6 rfl (vp_in_nI (by omega) (by decide)) dX12_gossips_123 ?_
                refine lv_topi (fun uv16 euv16 => ?_)
                obtain rfl : uv16 = G (7 * dn + eb) := euv16.trans (by rw [nI_clamp (by omega)]; exact hG2 _ (by omega))
                refine lv_ior (pc := 124) hx hb dX12_gossips_124 ?_
                refine lv_topi (fun uv17 euv17 => ?_)
                obtain rfl : uv17 = G (7 * dn + ea) ||| G (7 * dn + eb) := euv17.trans (rfl)
                refine lv_istore (lv' := [(8, .int (G (7 * dn + ea) ||| G (7 * dn + eb))), (7, .int (nI (12 * v + i))), (0, .ref h0), (1, .int (nI v)), (2, .int (nI dn)), (3, .int 2), (4, .int (nI (7 * dn))), (5, .int 0), (6, .int (nI i))]) (pc := 125) hx hb dX12_gossips_125 hl (by decide) rfl (fun ls hl => ?_)
                refine lv_aload_n (pc := 127) hx hb dX12_gossips_127 rfl (lv_at hl 2 rfl) ?_
                refine r_get X hW 0 ciX12 48 rfl (by decide) m_1275 rfl rfl dX12_gossips_128 ?_
                refine lv_iload (pc := 131) hx hb dX12_gossips_131 (lv_at hl 8 rfl) ?_
                refine r_zald X hW 5 rfl (vp_in_nI (by omega) (by decide)) dX12_gossips_133 ?_
                refine lv_topi (fun uv18 euv18 => ?_)
                obtain rfl : uv18 = lw i := euv18.trans (by rw [nI_clamp (by omega)])
                refine lv_if_eq (tgt := 276) (pc := 134) hx hb dX12_gossips_134 rfl (fun c19 => ?_) (fun c19 => ?_)
                · refine lv_iinc (v := nI (i + 1)) (lv' := [(6, .int (nI (i + 1))), (8, .int (G (7 * dn + ea) ||| G (7 * dn + eb))), (7, .int (nI (12 * v + i))), (0, .ref h0), (1, .int (nI v)), (2, .int (nI dn)), (3, .int 2), (4, .int (nI (7 * dn))), (5, .int 0)]) (pc := 276) hx hb dX12_gossips_276 hl (k := 8) rfl ((nI_succ i).symm) (by decide) rfl (fun ls hl => ?_)
                  refine lv_goto (tgt := 74) (pc := 279) hx hb dX12_gossips_279 rfl ?_
                  have hW : WD g A s _ _ [(h0, .inr (12, [.int i0, .ref b1, .int i2, .int i3, .int i4, .int i5, .ref b6, .ref b7, .ref b8, .ref b9, .ref b10, .ref b11, .ref b12, .ref b13, .ref b14, .ref b15, .ref b16, .ref b17, .int i18, .int i19, .int i20, .ref b21, .ref b22, .ref b23, .ref b24, .ref b25, .ref b26, .int i27, .ref b28, .ref b29, .ref b30, .ref b31, .ref b32, .ref b33, .ref b34, .ref b35, .ref b36, .int i37, .int i38, .int i39, .int i40, .int i41, .int i42, .int i43, .int i44, .int i45, .ref b46, .ref b47, .ref b48, .ref b49, .ref b50, .ref b51, .ref b52, .ref b53, .ref b54, .ref b55, .ref b56, .ref b57, .ref b58, .ref b59, .ref b60, .ref b61, .ref b62, .ref b63])), (b6, .inl (g.2.1 1, 11, .inl P)), (b7, .inl (g.2.1 1, 11, .inl Lc)), (b12, .inl (g.2.1 1, 132, .inl La)), (b13, .inl (g.2.1 1, 132, .inl Lb)), (b48, .inl (g.2.1 3, 12, .inl lw)), (b46, .inl (g.2.1 1, 112, .inl G2)), (b47, .inl (g.2.1 1, 16, .inl gr))] := hW.pick [0, 1, 2, 3, 4, 5, 6, 7] rfl rfl
                  exact ih2 (i + 1) G2 gr (by omega) (by omega) (hG2) hgr (gno_s hno (by omega) hea heb eA eB (fun ha9 hb9 hw9 hu9 => absurd c19 hw9)) _ _ _ hW (lv_sub hl [3, 4, 5, 6, 7, 8, 0] rfl)
                · have hw_i := c19
                  refine lv_aload_n (pc := 137) hx hb dX12_gossips_137 rfl (lv_at hl 2 rfl) ?_
                  refine r_get X hW 0 ciX12 46 rfl (by decide) m_1273 rfl rfl dX12_gossips_138 ?_
                  refine lv_iload (pc := 141) hx hb dX12_gossips_141 (lv_at hl 6 rfl) ?_
                  refine lv_aload_n (pc := 143) hx hb dX12_gossips_143 rfl (lv_at hl 2 rfl) ?_
                  refine r_get X hW 0 ciX12 12 rfl (by decide) m_1243 rfl rfl dX12_gossips_144 ?_
                  refine lv_iload (pc := 147) hx hb dX12_gossips_147 (lv_at hl 1 rfl) ?_
                  refine r_iald X hW 3 rfl (vp_in_nI (by omega) (by decide)) dX12_gossips_149 ?_
                  refine lv_topi (fun uv20 euv20 => ?_)
                  obtain rfl : uv20 = nI ea := euv20.trans (by rw [nI_clamp (by omega)]; exact eA)
                  refine lv_iadd (pc := 150) hx hb dX12_gossips_150 ?_
                  refine lv_topi (fun uv21 euv21 => ?_)
                  obtain rfl : uv21 = nI (7 * dn + ea) := euv21.trans (nI_add _ _)
                  refine r_iald X hW 6 rfl (vp_in_nI (by omega) (by decide)) dX12_gossips_151 ?_
                  refine lv_topi (fun uv22 euv22 => ?_)
                  obtain rfl : uv22 = G (7 * dn + ea) := euv22.trans (by rw [nI_clamp (by omega)]; exact hG2 _ (by omega))
                  refine lv_iload (pc := 152) hx hb dX12_gossips_152 (lv_at hl 0 rfl) ?_
                  refine lv_icmp_ne (tgt := 180) (pc := 154) hx hb dX12_gossips_154 rfl (fun c23 => ?_) (fun c23 => ?_)
                  · refine lv_iconst (v := 0) (pc := 180) hx hb dX12_gossips_180 (by decide) ?_
                    refine lv_istore (lv' := [(9, .int 0), (8, .int (G (7 * dn + ea) ||| G (7 * dn + eb))), (7, .int (nI (12 * v + i))), (0, .ref h0), (1, .int (nI v)), (2, .int (nI dn)), (3, .int 2), (4, .int (nI (7 * dn))), (5, .int 0), (6, .int (nI i))]) (pc := 181) hx hb dX12_gossips_181 hl (by decide) rfl (fun ls hl => ?_)
                    have loop3 : ∀ (fx : Nat) (y : Nat) (G3 : Nat → Int32), (pp < fx + y) → (y ≤ pp) → (∀ x : Nat, x < 7 * (dn + 1) → G3 x = G x) → (∀ z : Nat, z < y → G3 (7 * dn + 7 + z) = gaft (rwt G dn) ea eb z) → ∀ (H : Heap) (locs : List Loc) (ls : Array Slot), WD g A s H locs [(h0, .inr (12, [.int i0, .ref b1, .int i2, .int i3, .int i4, .int i5, .ref b6, .ref b7, .ref b8, .ref b9, .ref b10, .ref b11, .ref b12, .ref b13, .ref b14, .ref b15, .ref b16, .ref b17, .int i18, .int i19, .int i20, .ref b21, .ref b22, .ref b23, .ref b24, .ref b25, .ref b26, .int i27, .ref b28, .ref b29, .ref b30, .ref b31, .ref b32, .ref b33, .ref b34, .ref b35, .ref b36, .int i37, .int i38, .int i39, .int i40, .int i41, .int i42, .int i43, .int i44, .int i45, .ref b46, .ref b47, .ref b48, .ref b49, .ref b50, .ref b51, .ref b52, .ref b53, .ref b54, .ref b55, .ref b56, .ref b57, .ref b58, .ref b59, .ref b60, .ref b61, .ref b62, .ref b63])), (b6, .inl (g.2.1 1, 11, .inl P)), (b7, .inl (g.2.1 1, 11, .inl Lc)), (b12, .inl (g.2.1 1, 132, .inl La)), (b13, .inl (g.2.1 1, 132, .inl Lb)), (b48, .inl (g.2.1 3, 12, .inl lw)), (b46, .inl (g.2.1 1, 112, .inl G3)), (b47, .inl (g.2.1 1, 16, .inl gr))] → lv_has ls 10 [(0, .ref h0), (1, .int (nI v)), (2, .int (nI dn)), (3, .int 2), (4, .int (nI (7 * dn))), (5, .int 0), (6, .int (nI i)), (7, .int (nI (12 * v + i))), (8, .int (G (7 * dn + ea) ||| G (7 * dn + eb))), (9, .int (nI y))] → W p l e (RM 3 0 0) s m args below meth c H locs 0 0 Q (F0 m 183 ls []) := by
                      intro fx
                      induction fx with
                      | zero =>
                        intro y G3 hm3 hy hG3 hC
                        exact absurd hm3 (by omega)
                      | succ fx ih3 =>
                        intro y G3 hm3 hy hG3 hC H locs ls hW hl
                        refine lv_iload (pc := 183) hx hb dX12_gossips_183 (lv_at hl 9 rfl) ?_
                        refine lv_aload_n (pc := 185) hx hb dX12_gossips_185 rfl (lv_at hl 0 rfl) ?_
                        refine r_get X hW 0 ciX12 6 rfl (by decide) m_1237 rfl rfl dX12_gossips_186 ?_
                        refine lv_iload_n (pc := 189) hx hb dX12_gossips_189 rfl (lv_at hl 1 rfl) ?_
                        refine r_iald X hW 1 rfl (vp_in_nI (by omega) (by decide)) dX12_gossips_190 ?_
                        refine lv_topi (fun uv24 euv24 => ?_)
                        obtain rfl : uv24 = nI pp := euv24.trans (by rw [nI_clamp (by omega)]; exact hP)
                        refine lv_icmp_ge (tgt := 252) (pc := 191) hx hb dX12_gossips_191 rfl (fun c25 => ?_) (fun c25 => ?_)
                        · have hyk : y = pp := Nat.le_antisymm hy (ge_t (by omega) (by omega) c25)
                          rw [hyk] at hC
                          refine lv_aload_n (pc := 252) hx hb dX12_gossips_252 rfl (lv_at hl 0 rfl) ?_
                          refine r_get X hW 0 ciX12 47 rfl (by decide) m_1274 rfl rfl dX12_gossips_253 ?_
                          refine lv_iload_n (pc := 256) hx hb dX12_gossips_256 rfl (lv_at hl 2 rfl) ?_
                          refine lv_iload (pc := 257) hx hb dX12_gossips_257 (lv_at hl 6 rfl) ?_
                          obtain ⟨f26, ef26⟩ : ∃ fz : Nat → Int32, upd gr (nI dn).toNatClampNeg (nI i) = fz := ⟨_, rfl⟩
                          refine r_iast (ws' := [(h0, .inr (12, [.int i0, .ref b1, .int i2, .int i3, .int i4, .int i5, .ref b6, .ref b7, .ref b8, .ref b9, .ref b10, .ref b11, .ref b12, .ref b13, .ref b14, .ref b15, .ref b16, .ref b17, .int i18, .int i19, .int i20, .ref b21, .ref b22, .ref b23, .ref b24, .ref b25, .ref b26, .int i27, .ref b28, .ref b29, .ref b30, .ref b31, .ref b32, .ref b33, .ref b34, .ref b35, .ref b36, .int i37, .int i38, .int i39, .int i40, .int i41, .int i42, .int i43, .int i44, .int i45, .ref b46, .ref b47, .ref b48, .ref b49, .ref b50, .ref b51, .ref b52, .ref b53, .ref b54, .ref b55, .ref b56, .ref b57, .ref b58, .ref b59, .ref b60, .ref b61, .ref b62, .ref b63])), (b6, .inl (g.2.1 1, 11, .inl P)), (b7, .inl (g.2.1 1, 11, .inl Lc)), (b12, .inl (g.2.1 1, 132, .inl La)), (b13, .inl (g.2.1 1, 132, .inl Lb)), (b48, .inl (g.2.1 3, 12, .inl lw)), (b46, .inl (g.2.1 1, 112, .inl G3)), (b47, .inl (g.2.1 1, 16, .inl f26))]) X hW 7 rfl (vp_in_nI (by omega) (by decide)) ef26 rfl dX12_gossips_259 (fun H locs hW => ?_)
                          have hg_f26 : gb16 f26 := by rw [← ef26]; exact gb16_upd hgr (by omega)
                          refine lv_aload_n (pc := 260) hx hb dX12_gossips_260 rfl (lv_at hl 0 rfl) ?_
                          refine lv_iload_n (pc := 261) hx hb dX12_gossips_261 rfl (lv_at hl 1 rfl) ?_
                          refine lv_iload_n (pc := 262) hx hb dX12_gossips_262 rfl (lv_at hl 2 rfl) ?_
                          refine lv_iconst (v := 1) (pc := 263) hx hb dX12_gossips_263 (by decide) ?_
                          refine lv_iadd (pc := 264) hx hb dX12_gossips_264 ?_
                          refine lv_topi (fun uv27 euv27 => ?_)
                          obtain rfl : uv27 = nI (dn + 1) := euv27.trans (nI_1 _)
                          refine lv_iload_n (pc := 265) hx hb dX12_gossips_265 rfl (lv_at hl 3 rfl) ?_
                          refine lv_iconst (v := 1) (pc := 266) hx hb dX12_gossips_266 (by decide) ?_
                          refine lv_isub (pc := 267) hx hb dX12_gossips_267 ?_
                          refine lv_topi (fun uv28 euv28 => ?_)
                          obtain rfl : uv28 = 1 := euv28.trans (by decide +kernel)
                          refine c_Vi (pc := 268) (As := [.int (nI v), .int (nI (dn + 1)), .int 1]) (rest := []) (wr := []) X hW 0 ciX12 rfl (C_X12_gossips_1 l g h0 b1 b6 b7 b8 b9 b10 b11 b12 b13 b14 b15 b16 b17 b21 b22 b23 b24 b25 b26 b28 b29 b30 b31 b32 b33 b34 b35 b36 b46 b47 b48 b49 b50 b51 b52 b53 b54 b55 b56 b57 b58 b59 b60 b61 b62 b63 i0 i2 i3 i4 i5 i18 i19 i20 i27 i37 i38 i39 i40 i41 i42 i43 i44 i45 P Lc La Lb lw G3 f26 v lc pp (dn + 1) hv hlc hpp hP hLc hLA hLB hg_f26 (by omega)) vX12_346 [0, 1, 2, 3, 4, 5, 6, 7] [] rfl rfl rfl rfl rfl rfl hl.1 rfl (Nat.le_of_ble_eq_true rfl) ⟨Nat.le_of_ble_eq_true rfl, Nat.le_of_ble_eq_true rfl⟩ ⟨Nat.le_of_ble_eq_true rfl, Nat.le_of_ble_eq_true rfl⟩ dX12_gossips_268 (fun r31 u9 H locs hq hW => ?_)
                          obtain ⟨gq29, gw30, -, hq1_gq29, hq2_gq29, hgw30, rfl⟩ := hq
                          have hW : WD g A s _ _ [(h0, .inr (12, [.int i0, .ref b1, .int i2, .int i3, .int i4, .int i5, .ref b6, .ref b7, .ref b8, .ref b9, .ref b10, .ref b11, .ref b12, .ref b13, .ref b14, .ref b15, .ref b16, .ref b17, .int i18, .int i19, .int i20, .ref b21, .ref b22, .ref b23, .ref b24, .ref b25, .ref b26, .int i27, .ref b28, .ref b29, .ref b30, .ref b31, .ref b32, .ref b33, .ref b34, .ref b35, .ref b36, .int i37, .int i38, .int i39, .int i40, .int i41, .int i42, .int i43, .int i44, .int i45, .ref b46, .ref b47, .ref b48, .ref b49, .ref b50, .ref b51, .ref b52, .ref b53, .ref b54, .ref b55, .ref b56, .ref b57, .ref b58, .ref b59, .ref b60, .ref b61, .ref b62, .ref b63])), (b6, .inl (g.2.1 1, 11, .inl P)), (b7, .inl (g.2.1 1, 11, .inl Lc)), (b12, .inl (g.2.1 1, 132, .inl La)), (b13, .inl (g.2.1 1, 132, .inl Lb)), (b48, .inl (g.2.1 3, 12, .inl lw)), (b46, .inl (g.2.1 1, 112, .inl gq29)), (b47, .inl (g.2.1 1, 16, .inl gw30))] := hW
                          refine lv_if_eq (tgt := 276) (pc := 271) hx hb dX12_gossips_271 rfl (fun c32 => ?_) (fun c32 => ?_)
                          · refine lv_iinc (v := nI (i + 1)) (lv' := [(6, .int (nI (i + 1))), (0, .ref h0), (1, .int (nI v)), (2, .int (nI dn)), (3, .int 2), (4, .int (nI (7 * dn))), (5, .int 0), (7, .int (nI (12 * v + i))), (8, .int (G (7 * dn + ea) ||| G (7 * dn + eb))), (9, .int (nI y))]) (pc := 276) hx hb dX12_gossips_276 hl (k := 6) rfl ((nI_succ i).symm) (by decide) rfl (fun ls hl => ?_)
                            refine lv_goto (tgt := 74) (pc := 279) hx hb dX12_gossips_279 rfl ?_
                            have hW : WD g A s _ _ [(h0, .inr (12, [.int i0, .ref b1, .int i2, .int i3, .int i4, .int i5, .ref b6, .ref b7, .ref b8, .ref b9, .ref b10, .ref b11, .ref b12, .ref b13, .ref b14, .ref b15, .ref b16, .ref b17, .int i18, .int i19, .int i20, .ref b21, .ref b22, .ref b23, .ref b24, .ref b25, .ref b26, .int i27, .ref b28, .ref b29, .ref b30, .ref b31, .ref b32, .ref b33, .ref b34, .ref b35, .ref b36, .int i37, .int i38, .int i39, .int i40, .int i41, .int i42, .int i43, .int i44, .int i45, .ref b46, .ref b47, .ref b48, .ref b49, .ref b50, .ref b51, .ref b52, .ref b53, .ref b54, .ref b55, .ref b56, .ref b57, .ref b58, .ref b59, .ref b60, .ref b61, .ref b62, .ref b63])), (b6, .inl (g.2.1 1, 11, .inl P)), (b7, .inl (g.2.1 1, 11, .inl Lc)), (b12, .inl (g.2.1 1, 132, .inl La)), (b13, .inl (g.2.1 1, 132, .inl Lb)), (b48, .inl (g.2.1 3, 12, .inl lw)), (b46, .inl (g.2.1 1, 112, .inl gq29)), (b47, .inl (g.2.1 1, 16, .inl gw30))] := hW.pick [0, 1, 2, 3, 4, 5, 6, 7] rfl rfl
                            exact ih2 (i + 1) gq29 gw30 (by omega) (by omega) (fun x hx => (hq2_gq29 x (by omega)).trans (hG3 x hx)) hgw30 (gno_s hno (by omega) hea heb eA eB (fun ha9 hb9 hw9 hu9 => fun hg9 => absurd (hq1_gq29 (gok_cong hg9 (fun o ho => (hC o ho).symm))) (by rw [c32]; decide))) _ _ _ hW (lv_sub hl [1, 2, 3, 4, 5, 6, 0] rfl)
                          · refine lv_iconst (v := 1) (pc := 274) hx hb dX12_gossips_274 (by decide) ?_
                            exact e_z X hQ hr hW (u := [(h0, .inr (12, [.int i0, .ref b1, .int i2, .int i3, .int i4, .int i5, .ref b6, .ref b7, .ref b8, .ref b9, .ref b10, .ref b11, .ref b12, .ref b13, .ref b14, .ref b15, .ref b16, .ref b17, .int i18, .int i19, .int i20, .ref b21, .ref b22, .ref b23, .ref b24, .ref b25, .ref b26, .int i27, .ref b28, .ref b29, .ref b30, .ref b31, .ref b32, .ref b33, .ref b34, .ref b35, .ref b36, .int i37, .int i38, .int i39, .int i40, .int i41, .int i42, .int i43, .int i44, .int i45, .ref b46, .ref b47, .ref b48, .ref b49, .ref b50, .ref b51, .ref b52, .ref b53, .ref b54, .ref b55, .ref b56, .ref b57, .ref b58, .ref b59, .ref b60, .ref b61, .ref b62, .ref b63])), (b6, .inl (g.2.1 1, 11, .inl P)), (b7, .inl (g.2.1 1, 11, .inl Lc)), (b12, .inl (g.2.1 1, 132, .inl La)), (b13, .inl (g.2.1 1, 132, .inl Lb)), (b48, .inl (g.2.1 3, 12, .inl lw)), (b46, .inl (g.2.1 1, 112, .inl gq29)), (b47, .inl (g.2.1 1, 16, .inl gw30))]) rfl [0, 1, 2, 3, 4, 5, 6, 7] rfl rfl (⟨_, _, Or.inr rfl, fun _ => rfl, fun x hx => (hq2_gq29 x (by omega)).trans (hG3 x hx), hgw30, rfl⟩) ⟨Nat.le_of_ble_eq_true rfl, Nat.le_of_ble_eq_true rfl⟩ dX12_gossips_275
                        · have hyl : y < pp := ge_f (by omega) (by omega) c25
                          refine lv_aload_n (pc := 194) hx hb dX12_gossips_194 rfl (lv_at hl 0 rfl) ?_
                          refine r_get X hW 0 ciX12 46 rfl (by decide) m_1273 rfl rfl dX12_gossips_195 ?_
                          refine lv_iload (pc := 198) hx hb dX12_gossips_198 (lv_at hl 4 rfl) ?_
                          refine lv_bipush (v := 7) (pc := 200) hx hb dX12_gossips_200 (by decide) ?_
                          refine lv_iadd (pc := 202) hx hb dX12_gossips_202 ?_
                          refine lv_topi (fun uv33 euv33 => ?_)
                          obtain rfl : uv33 = nI (7 * dn + 7) := euv33.trans (nI_add _ _)
                          refine lv_iload (pc := 203) hx hb dX12_gossips_203 (lv_at hl 9 rfl) ?_
                          refine lv_iadd (pc := 205) hx hb dX12_gossips_205 ?_
                          refine lv_topi (fun uv34 euv34 => ?_)
                          obtain rfl : uv34 = nI (7 * dn + 7 + y) := euv34.trans (nI_add _ _)
                          refine lv_iload (pc := 206) hx hb dX12_gossips_206 (lv_at hl 9 rfl) ?_
                          refine lv_aload_n (pc := 208) hx hb dX12_gossips_208 rfl (lv_at hl 0 rfl) ?_
                          refine r_get X hW 0 ciX12 12 rfl (by decide) m_1243 rfl rfl dX12_gossips_209 ?_
                          refine lv_iload (pc := 212) hx hb dX12_gossips_212 (lv_at hl 7 rfl) ?_
                          refine r_iald X hW 3 rfl (vp_in_nI (by omega) (by decide)) dX12_gossips_214 ?_
                          refine lv_topi (fun uv35 euv35 => ?_)
                          obtain rfl : uv35 = nI ea := euv35.trans (by rw [nI_clamp (by omega)]; exact eA)
                          refine lv_icmp_eq (tgt := 230) (pc := 215) hx hb dX12_gossips_215 rfl (fun c36 => ?_) (fun c36 => ?_)
                          · refine lv_iload (pc := 230) hx hb dX12_gossips_230 (lv_at hl 8 rfl) ?_
                            refine lv_goto (tgt := 245) (pc := 232) hx hb dX12_gossips_232 rfl ?_
                            obtain ⟨f37, ef37⟩ : ∃ fz : Nat → Int32, upd G3 (nI (7 * dn + 7 + y)).toNatClampNeg (G (7 * dn + ea) ||| G (7 * dn + eb)) = fz := ⟨_, rfl⟩
                            refine r_iast (ws' := [(h0, .inr (12, [.int i0, .ref b1, .int i2, .int i3, .int i4, .int i5, .ref b6, .ref b7, .ref b8, .ref b9, .ref b10, .ref b11, .ref b12, .ref b13, .ref b14, .ref b15, .ref b16, .ref b17, .int i18, .int i19, .int i20, .ref b21, .ref b22, .ref b23, .ref b24, .ref b25, .ref b26, .int i27, .ref b28, .ref b29, .ref b30, .ref b31, .ref b32, .ref b33, .ref b34, .ref b35, .ref b36, .int i37, .int i38, .int i39, .int i40, .int i41, .int i42, .int i43, .int i44, .int i45, .ref b46, .ref b47, .ref b48, .ref b49, .ref b50, .ref b51, .ref b52, .ref b53, .ref b54, .ref b55, .ref b56, .ref b57, .ref b58, .ref b59, .ref b60, .ref b61, .ref b62, .ref b63])), (b6, .inl (g.2.1 1, 11, .inl P)), (b7, .inl (g.2.1 1, 11, .inl Lc)), (b12, .inl (g.2.1 1, 132, .inl La)), (b13, .inl (g.2.1 1, 132, .inl Lb)), (b48, .inl (g.2.1 3, 12, .inl lw)), (b46, .inl (g.2.1 1, 112, .inl f37)), (b47, .inl (g.2.1 1, 16, .inl gr))]) X hW 6 rfl (vp_in_nI (by omega) (by decide)) ef37 rfl dX12_gossips_245 (fun H locs hW => ?_)
                            refine lv_iinc (v := nI (y + 1)) (lv' := [(9, .int (nI (y + 1))), (0, .ref h0), (1, .int (nI v)), (2, .int (nI dn)), (3, .int 2), (4, .int (nI (7 * dn))), (5, .int 0), (6, .int (nI i)), (7, .int (nI (12 * v + i))), (8, .int (G (7 * dn + ea) ||| G (7 * dn + eb)))]) (pc := 246) hx hb dX12_gossips_246 hl (k := 9) rfl ((nI_succ y).symm) (by decide) rfl (fun ls hl => ?_)
                            refine lv_goto (tgt := 183) (pc := 249) hx hb dX12_gossips_249 rfl ?_
                            have hW : WD g A s _ _ [(h0, .inr (12, [.int i0, .ref b1, .int i2, .int i3, .int i4, .int i5, .ref b6, .ref b7, .ref b8, .ref b9, .ref b10, .ref b11, .ref b12, .ref b13, .ref b14, .ref b15, .ref b16, .ref b17, .int i18, .int i19, .int i20, .ref b21, .ref b22, .ref b23, .ref b24, .ref b25, .ref b26, .int i27, .ref b28, .ref b29, .ref b30, .ref b31, .ref b32, .ref b33, .ref b34, .ref b35, .ref b36, .int i37, .int i38, .int i39, .int i40, .int i41, .int i42, .int i43, .int i44, .int i45, .ref b46, .ref b47, .ref b48, .ref b49, .ref b50, .ref b51, .ref b52, .ref b53, .ref b54, .ref b55, .ref b56, .ref b57, .ref b58, .ref b59, .ref b60, .ref b61, .ref b62, .ref b63])), (b6, .inl (g.2.1 1, 11, .inl P)), (b7, .inl (g.2.1 1, 11, .inl Lc)), (b12, .inl (g.2.1 1, 132, .inl La)), (b13, .inl (g.2.1 1, 132, .inl Lb)), (b48, .inl (g.2.1 3, 12, .inl lw)), (b46, .inl (g.2.1 1, 112, .inl f37)), (b47, .inl (g.2.1 1, 16, .inl gr))] := hW.pick [0, 1, 2, 3, 4, 5, 6, 7] rfl rfl
                            exact ih3 (y + 1) f37 (by omega) (by omega) (fun x hx => by
                                rw [← ef37, nI_clamp (by omega)]
                                simp only [upd, show ¬ x = 7 * dn + 7 + y by omega, if_false]
                                exact hG3 x hx) (fun z hz => by
                                rw [← ef37, nI_clamp (by omega)]
                                by_cases e9 : z = y
                                · subst e9; simp only [upd, if_true]; rw [gaft, if_pos (Or.inl (nI_inj6 (by omega) (by omega) c36))]; rfl
                                · simp only [upd, show ¬ 7 * dn + 7 + z = 7 * dn + 7 + y by omega, if_false]; exact hC z (by omega)) _ _ _ hW (lv_sub hl [1, 2, 3, 4, 5, 6, 7, 8, 9, 0] rfl)
                          · refine lv_iload (pc := 218) hx hb dX12_gossips_218 (lv_at hl 9 rfl) ?_
                            refine lv_aload_n (pc := 220) hx hb dX12_gossips_220 rfl (lv_at hl 0 rfl) ?_
                            refine r_get X hW 0 ciX12 13 rfl (by decide) m_1244 rfl rfl dX12_gossips_221 ?_
                            refine lv_iload (pc := 224) hx hb dX12_gossips_224 (lv_at hl 7 rfl) ?_
                            refine r_iald X hW 4 rfl (vp_in_nI (by omega) (by decide)) dX12_gossips_226 ?_
                            refine lv_topi (fun uv38 euv38 => ?_)
                            obtain rfl : uv38 = nI eb := euv38.trans (by rw [nI_clamp (by omega)]; exact eB)
                            refine lv_icmp_ne (tgt := 235) (pc := 227) hx hb dX12_gossips_227 rfl (fun c39 => ?_) (fun c39 => ?_)
                            · refine lv_aload_n (pc := 235) hx hb dX12_gossips_235 rfl (lv_at hl 0 rfl) ?_
                              refine r_get X hW 0 ciX12 46 rfl (by decide) m_1273 rfl rfl dX12_gossips_236 ?_
                              refine lv_iload (pc := 239) hx hb dX12_gossips_239 (lv_at hl 4 rfl) ?_
                              refine lv_iload (pc := 241) hx hb dX12_gossips_241 (lv_at hl 9 rfl) ?_
                              refine lv_iadd (pc := 243) hx hb dX12_gossips_243 ?_
                              refine lv_topi (fun uv40 euv40 => ?_)
                              obtain rfl : uv40 = nI (7 * dn + y) := euv40.trans (nI_add _ _)
                              refine r_iald X hW 6 rfl (vp_in_nI (by omega) (by decide)) dX12_gossips_244 ?_
                              refine lv_topi (fun uv41 euv41 => ?_)
                              obtain rfl : uv41 = G (7 * dn + y) := euv41.trans (by rw [nI_clamp (by omega)]; exact hG3 _ (by omega))
                              obtain ⟨f42, ef42⟩ : ∃ fz : Nat → Int32, upd G3 (nI (7 * dn + 7 + y)).toNatClampNeg (G (7 * dn + y)) = fz := ⟨_, rfl⟩
                              refine r_iast (ws' := [(h0, .inr (12, [.int i0, .ref b1, .int i2, .int i3, .int i4, .int i5, .ref b6, .ref b7, .ref b8, .ref b9, .ref b10, .ref b11, .ref b12, .ref b13, .ref b14, .ref b15, .ref b16, .ref b17, .int i18, .int i19, .int i20, .ref b21, .ref b22, .ref b23, .ref b24, .ref b25, .ref b26, .int i27, .ref b28, .ref b29, .ref b30, .ref b31, .ref b32, .ref b33, .ref b34, .ref b35, .ref b36, .int i37, .int i38, .int i39, .int i40, .int i41, .int i42, .int i43, .int i44, .int i45, .ref b46, .ref b47, .ref b48, .ref b49, .ref b50, .ref b51, .ref b52, .ref b53, .ref b54, .ref b55, .ref b56, .ref b57, .ref b58, .ref b59, .ref b60, .ref b61, .ref b62, .ref b63])), (b6, .inl (g.2.1 1, 11, .inl P)), (b7, .inl (g.2.1 1, 11, .inl Lc)), (b12, .inl (g.2.1 1, 132, .inl La)), (b13, .inl (g.2.1 1, 132, .inl Lb)), (b48, .inl (g.2.1 3, 12, .inl lw)), (b46, .inl (g.2.1 1, 112, .inl f42)), (b47, .inl (g.2.1 1, 16, .inl gr))]) X hW 6 rfl (vp_in_nI (by omega) (by decide)) ef42 rfl dX12_gossips_245 (fun H locs hW => ?_)
                              refine lv_iinc (v := nI (y + 1)) (lv' := [(9, .int (nI (y + 1))), (0, .ref h0), (1, .int (nI v)), (2, .int (nI dn)), (3, .int 2), (4, .int (nI (7 * dn))), (5, .int 0), (6, .int (nI i)), (7, .int (nI (12 * v + i))), (8, .int (G (7 * dn + ea) ||| G (7 * dn + eb)))]) (pc := 246) hx hb dX12_gossips_246 hl (k := 9) rfl ((nI_succ y).symm) (by decide) rfl (fun ls hl => ?_)
                              refine lv_goto (tgt := 183) (pc := 249) hx hb dX12_gossips_249 rfl ?_
                              have hW : WD g A s _ _ [(h0, .inr (12, [.int i0, .ref b1, .int i2, .int i3, .int i4, .int i5, .ref b6, .ref b7, .ref b8, .ref b9, .ref b10, .ref b11, .ref b12, .ref b13, .ref b14, .ref b15, .ref b16, .ref b17, .int i18, .int i19, .int i20, .ref b21, .ref b22, .ref b23, .ref b24, .ref b25, .ref b26, .int i27, .ref b28, .ref b29, .ref b30, .ref b31, .ref b32, .ref b33, .ref b34, .ref b35, .ref b36, .int i37, .int i38, .int i39, .int i40, .int i41, .int i42, .int i43, .int i44, .int i45, .ref b46, .ref b47, .ref b48, .ref b49, .ref b50, .ref b51, .ref b52, .ref b53, .ref b54, .ref b55, .ref b56, .ref b57, .ref b58, .ref b59, .ref b60, .ref b61, .ref b62, .ref b63])), (b6, .inl (g.2.1 1, 11, .inl P)), (b7, .inl (g.2.1 1, 11, .inl Lc)), (b12, .inl (g.2.1 1, 132, .inl La)), (b13, .inl (g.2.1 1, 132, .inl Lb)), (b48, .inl (g.2.1 3, 12, .inl lw)), (b46, .inl (g.2.1 1, 112, .inl f42)), (b47, .inl (g.2.1 1, 16, .inl gr))] := hW.pick [0, 1, 2, 3, 4, 5, 6, 7] rfl rfl
                              exact ih3 (y + 1) f42 (by omega) (by omega) (fun x hx => by
                                  rw [← ef42, nI_clamp (by omega)]
                                  simp only [upd, show ¬ x = 7 * dn + 7 + y by omega, if_false]
                                  exact hG3 x hx) (fun z hz => by
                                  rw [← ef42, nI_clamp (by omega)]
                                  by_cases e9 : z = y
                                  · subst e9; simp only [upd, if_true]; rw [gaft, if_neg (fun q => q.elim (fun r => c36 (congrArg nI r)) (fun r => c39 (congrArg nI r)))]; rfl
                                  · simp only [upd, show ¬ 7 * dn + 7 + z = 7 * dn + 7 + y by omega, if_false]; exact hC z (by omega)) _ _ _ hW (lv_sub hl [1, 2, 3, 4, 5, 6, 7, 8, 9, 0] rfl)
                            · refine lv_iload (pc := 230) hx hb dX12_gossips_230 (lv_at hl 8 rfl) ?_
                              refine lv_goto (tgt := 245) (pc := 232) hx hb dX12_gossips_232 rfl ?_
                              obtain ⟨f43, ef43⟩ : ∃ fz : Nat → Int32, upd G3 (nI (7 * dn + 7 + y)).toNatClampNeg (G (7 * dn + ea) ||| G (7 * dn + eb)) = fz := ⟨_, rfl⟩
                              refine r_iast (ws' := [(h0, .inr (12, [.int i0, .ref b1, .int i2, .int i3, .int i4, .int i5, .ref b6, .ref b7, .ref b8, .ref b9, .ref b10, .ref b11, .ref b12, .ref b13, .ref b14, .ref b15, .ref b16, .ref b17, .int i18, .int i19, .int i20, .ref b21, .ref b22, .ref b23, .ref b24, .ref b25, .ref b26, .int i27, .ref b28, .ref b29, .ref b30, .ref b31, .ref b32, .ref b33, .ref b34, .ref b35, .ref b36, .int i37, .int i38, .int i39, .int i40, .int i41, .int i42, .int i43, .int i44, .int i45, .ref b46, .ref b47, .ref b48, .ref b49, .ref b50, .ref b51, .ref b52, .ref b53, .ref b54, .ref b55, .ref b56, .ref b57, .ref b58, .ref b59, .ref b60, .ref b61, .ref b62, .ref b63])), (b6, .inl (g.2.1 1, 11, .inl P)), (b7, .inl (g.2.1 1, 11, .inl Lc)), (b12, .inl (g.2.1 1, 132, .inl La)), (b13, .inl (g.2.1 1, 132, .inl Lb)), (b48, .inl (g.2.1 3, 12, .inl lw)), (b46, .inl (g.2.1 1, 112, .inl f43)), (b47, .inl (g.2.1 1, 16, .inl gr))]) X hW 6 rfl (vp_in_nI (by omega) (by decide)) ef43 rfl dX12_gossips_245 (fun H locs hW => ?_)
                              refine lv_iinc (v := nI (y + 1)) (lv' := [(9, .int (nI (y + 1))), (0, .ref h0), (1, .int (nI v)), (2, .int (nI dn)), (3, .int 2), (4, .int (nI (7 * dn))), (5, .int 0), (6, .int (nI i)), (7, .int (nI (12 * v + i))), (8, .int (G (7 * dn + ea) ||| G (7 * dn + eb)))]) (pc := 246) hx hb dX12_gossips_246 hl (k := 9) rfl ((nI_succ y).symm) (by decide) rfl (fun ls hl => ?_)
                              refine lv_goto (tgt := 183) (pc := 249) hx hb dX12_gossips_249 rfl ?_
                              have hW : WD g A s _ _ [(h0, .inr (12, [.int i0, .ref b1, .int i2, .int i3, .int i4, .int i5, .ref b6, .ref b7, .ref b8, .ref b9, .ref b10, .ref b11, .ref b12, .ref b13, .ref b14, .ref b15, .ref b16, .ref b17, .int i18, .int i19, .int i20, .ref b21, .ref b22, .ref b23, .ref b24, .ref b25, .ref b26, .int i27, .ref b28, .ref b29, .ref b30, .ref b31, .ref b32, .ref b33, .ref b34, .ref b35, .ref b36, .int i37, .int i38, .int i39, .int i40, .int i41, .int i42, .int i43, .int i44, .int i45, .ref b46, .ref b47, .ref b48, .ref b49, .ref b50, .ref b51, .ref b52, .ref b53, .ref b54, .ref b55, .ref b56, .ref b57, .ref b58, .ref b59, .ref b60, .ref b61, .ref b62, .ref b63])), (b6, .inl (g.2.1 1, 11, .inl P)), (b7, .inl (g.2.1 1, 11, .inl Lc)), (b12, .inl (g.2.1 1, 132, .inl La)), (b13, .inl (g.2.1 1, 132, .inl Lb)), (b48, .inl (g.2.1 3, 12, .inl lw)), (b46, .inl (g.2.1 1, 112, .inl f43)), (b47, .inl (g.2.1 1, 16, .inl gr))] := hW.pick [0, 1, 2, 3, 4, 5, 6, 7] rfl rfl
                              exact ih3 (y + 1) f43 (by omega) (by omega) (fun x hx => by
                                  rw [← ef43, nI_clamp (by omega)]
                                  simp only [upd, show ¬ x = 7 * dn + 7 + y by omega, if_false]
                                  exact hG3 x hx) (fun z hz => by
                                  rw [← ef43, nI_clamp (by omega)]
                                  by_cases e9 : z = y
                                  · subst e9; simp only [upd, if_true]; rw [gaft, if_pos (Or.inr (nI_inj6 (by omega) (by omega) c39))]; rfl
                                  · simp only [upd, show ¬ 7 * dn + 7 + z = 7 * dn + 7 + y by omega, if_false]; exact hC z (by omega)) _ _ _ hW (lv_sub hl [1, 2, 3, 4, 5, 6, 7, 8, 9, 0] rfl)
                    exact loop3 (pp + 1) 0 G2 (by omega) (Nat.zero_le _) hG2 (fun z hz => absurd hz (Nat.not_lt_zero z)) _ _ _ hW (lv_sub hl [3, 4, 5, 6, 7, 8, 9, 2, 1, 0] rfl)
                  · have h_eA := c23
                    refine lv_aload_n (pc := 157) hx hb dX12_gossips_157 rfl (lv_at hl 2 rfl) ?_
                    refine r_get X hW 0 ciX12 46 rfl (by decide) m_1273 rfl rfl dX12_gossips_158 ?_
                    refine lv_iload (pc := 161) hx hb dX12_gossips_161 (lv_at hl 6 rfl) ?_
                    refine lv_aload_n (pc := 163) hx hb dX12_gossips_163 rfl (lv_at hl 2 rfl) ?_
                    refine r_get X hW 0 ciX12 13 rfl (by decide) m_1244 rfl rfl dX12_gossips_164 ?_
                    refine lv_iload (pc := 167) hx hb dX12_gossips_167 (lv_at hl 1 rfl) ?_
                    refine r_iald X hW 4 rfl (vp_in_nI (by omega) (by decide)) dX12_gossips_169 ?_
                    refine lv_topi (fun uv44 euv44 => ?_)
                    obtain rfl : uv44 = nI eb := euv44.trans (by rw [nI_clamp (by omega)]; exact eB)
                    refine lv_iadd (pc := 170) hx hb dX12_gossips_170 ?_
                    refine lv_topi (fun uv45 euv45 => ?_)
                    obtain rfl : uv45 = nI (7 * dn + eb) := euv45.trans (nI_add _ _)
                    refine r_iald X hW 6 rfl (vp_in_nI (by omega) (by decide)) dX12_gossips_171 ?_
                    refine lv_topi (fun uv46 euv46 => ?_)
                    obtain rfl : uv46 = G (7 * dn + eb) := euv46.trans (by rw [nI_clamp (by omega)]; exact hG2 _ (by omega))
                    refine lv_iload (pc := 172) hx hb dX12_gossips_172 (lv_at hl 0 rfl) ?_
                    refine lv_icmp_ne (tgt := 180) (pc := 174) hx hb dX12_gossips_174 rfl (fun c47 => ?_) (fun c47 => ?_)
                    · refine lv_iconst (v := 0) (pc := 180) hx hb dX12_gossips_180 (by decide) ?_
                      refine lv_istore (lv' := [(9, .int 0), (8, .int (G (7 * dn + ea) ||| G (7 * dn + eb))), (7, .int (nI (12 * v + i))), (0, .ref h0), (1, .int (nI v)), (2, .int (nI dn)), (3, .int 2), (4, .int (nI (7 * dn))), (5, .int 0), (6, .int (nI i))]) (pc := 181) hx hb dX12_gossips_181 hl (by decide) rfl (fun ls hl => ?_)
                      have loop3 : ∀ (fx : Nat) (y : Nat) (G3 : Nat → Int32), (pp < fx + y) → (y ≤ pp) → (∀ x : Nat, x < 7 * (dn + 1) → G3 x = G x) → (∀ z : Nat, z < y → G3 (7 * dn + 7 + z) = gaft (rwt G dn) ea eb z) → ∀ (H : Heap) (locs : List Loc) (ls : Array Slot), WD g A s H locs [(h0, .inr (12, [.int i0, .ref b1, .int i2, .int i3, .int i4, .int i5, .ref b6, .ref b7, .ref b8, .ref b9, .ref b10, .ref b11, .ref b12, .ref b13, .ref b14, .ref b15, .ref b16, .ref b17, .int i18, .int i19, .int i20, .ref b21, .ref b22, .ref b23, .ref b24, .ref b25, .ref b26, .int i27, .ref b28, .ref b29, .ref b30, .ref b31, .ref b32, .ref b33, .ref b34, .ref b35, .ref b36, .int i37, .int i38, .int i39, .int i40, .int i41, .int i42, .int i43, .int i44, .int i45, .ref b46, .ref b47, .ref b48, .ref b49, .ref b50, .ref b51, .ref b52, .ref b53, .ref b54, .ref b55, .ref b56, .ref b57, .ref b58, .ref b59, .ref b60, .ref b61, .ref b62, .ref b63])), (b6, .inl (g.2.1 1, 11, .inl P)), (b7, .inl (g.2.1 1, 11, .inl Lc)), (b12, .inl (g.2.1 1, 132, .inl La)), (b13, .inl (g.2.1 1, 132, .inl Lb)), (b48, .inl (g.2.1 3, 12, .inl lw)), (b46, .inl (g.2.1 1, 112, .inl G3)), (b47, .inl (g.2.1 1, 16, .inl gr))] → lv_has ls 10 [(0, .ref h0), (1, .int (nI v)), (2, .int (nI dn)), (3, .int 2), (4, .int (nI (7 * dn))), (5, .int 0), (6, .int (nI i)), (7, .int (nI (12 * v + i))), (8, .int (G (7 * dn + ea) ||| G (7 * dn + eb))), (9, .int (nI y))] → W p l e (RM 3 0 0) s m args below meth c H locs 0 0 Q (F0 m 183 ls []) := by
                        intro fx
                        induction fx with
                        | zero =>
                          intro y G3 hm3 hy hG3 hC
                          exact absurd hm3 (by omega)
                        | succ fx ih3 =>
                          intro y G3 hm3 hy hG3 hC H locs ls hW hl
                          refine lv_iload (pc := 183) hx hb dX12_gossips_183 (lv_at hl 9 rfl) ?_
                          refine lv_aload_n (pc := 185) hx hb dX12_gossips_185 rfl (lv_at hl 0 rfl) ?_
                          refine r_get X hW 0 ciX12 6 rfl (by decide) m_1237 rfl rfl dX12_gossips_186 ?_
                          refine lv_iload_n (pc := 189) hx hb dX12_gossips_189 rfl (lv_at hl 1 rfl) ?_
                          refine r_iald X hW 1 rfl (vp_in_nI (by omega) (by decide)) dX12_gossips_190 ?_
                          refine lv_topi (fun uv48 euv48 => ?_)
                          obtain rfl : uv48 = nI pp := euv48.trans (by rw [nI_clamp (by omega)]; exact hP)
                          refine lv_icmp_ge (tgt := 252) (pc := 191) hx hb dX12_gossips_191 rfl (fun c49 => ?_) (fun c49 => ?_)
                          · have hyk : y = pp := Nat.le_antisymm hy (ge_t (by omega) (by omega) c49)
                            rw [hyk] at hC
                            refine lv_aload_n (pc := 252) hx hb dX12_gossips_252 rfl (lv_at hl 0 rfl) ?_
                            refine r_get X hW 0 ciX12 47 rfl (by decide) m_1274 rfl rfl dX12_gossips_253 ?_
                            refine lv_iload_n (pc := 256) hx hb dX12_gossips_256 rfl (lv_at hl 2 rfl) ?_
                            refine lv_iload (pc := 257) hx hb dX12_gossips_257 (lv_at hl 6 rfl) ?_
                            obtain ⟨f50, ef50⟩ : ∃ fz : Nat → Int32, upd gr (nI dn).toNatClampNeg (nI i) = fz := ⟨_, rfl⟩
                            refine r_iast (ws' := [(h0, .inr (12, [.int i0, .ref b1, .int i2, .int i3, .int i4, .int i5, .ref b6, .ref b7, .ref b8, .ref b9, .ref b10, .ref b11, .ref b12, .ref b13, .ref b14, .ref b15, .ref b16, .ref b17, .int i18, .int i19, .int i20, .ref b21, .ref b22, .ref b23, .ref b24, .ref b25, .ref b26, .int i27, .ref b28, .ref b29, .ref b30, .ref b31, .ref b32, .ref b33, .ref b34, .ref b35, .ref b36, .int i37, .int i38, .int i39, .int i40, .int i41, .int i42, .int i43, .int i44, .int i45, .ref b46, .ref b47, .ref b48, .ref b49, .ref b50, .ref b51, .ref b52, .ref b53, .ref b54, .ref b55, .ref b56, .ref b57, .ref b58, .ref b59, .ref b60, .ref b61, .ref b62, .ref b63])), (b6, .inl (g.2.1 1, 11, .inl P)), (b7, .inl (g.2.1 1, 11, .inl Lc)), (b12, .inl (g.2.1 1, 132, .inl La)), (b13, .inl (g.2.1 1, 132, .inl Lb)), (b48, .inl (g.2.1 3, 12, .inl lw)), (b46, .inl (g.2.1 1, 112, .inl G3)), (b47, .inl (g.2.1 1, 16, .inl f50))]) X hW 7 rfl (vp_in_nI (by omega) (by decide)) ef50 rfl dX12_gossips_259 (fun H locs hW => ?_)
                            have hg_f50 : gb16 f50 := by rw [← ef50]; exact gb16_upd hgr (by omega)
                            refine lv_aload_n (pc := 260) hx hb dX12_gossips_260 rfl (lv_at hl 0 rfl) ?_
                            refine lv_iload_n (pc := 261) hx hb dX12_gossips_261 rfl (lv_at hl 1 rfl) ?_
                            refine lv_iload_n (pc := 262) hx hb dX12_gossips_262 rfl (lv_at hl 2 rfl) ?_
                            refine lv_iconst (v := 1) (pc := 263) hx hb dX12_gossips_263 (by decide) ?_
                            refine lv_iadd (pc := 264) hx hb dX12_gossips_264 ?_
                            refine lv_topi (fun uv51 euv51 => ?_)
                            obtain rfl : uv51 = nI (dn + 1) := euv51.trans (nI_1 _)
                            refine lv_iload_n (pc := 265) hx hb dX12_gossips_265 rfl (lv_at hl 3 rfl) ?_
                            refine lv_iconst (v := 1) (pc := 266) hx hb dX12_gossips_266 (by decide) ?_
                            refine lv_isub (pc := 267) hx hb dX12_gossips_267 ?_
                            refine lv_topi (fun uv52 euv52 => ?_)
                            obtain rfl : uv52 = 1 := euv52.trans (by decide +kernel)
                            refine c_Vi (pc := 268) (As := [.int (nI v), .int (nI (dn + 1)), .int 1]) (rest := []) (wr := []) X hW 0 ciX12 rfl (C_X12_gossips_1 l g h0 b1 b6 b7 b8 b9 b10 b11 b12 b13 b14 b15 b16 b17 b21 b22 b23 b24 b25 b26 b28 b29 b30 b31 b32 b33 b34 b35 b36 b46 b47 b48 b49 b50 b51 b52 b53 b54 b55 b56 b57 b58 b59 b60 b61 b62 b63 i0 i2 i3 i4 i5 i18 i19 i20 i27 i37 i38 i39 i40 i41 i42 i43 i44 i45 P Lc La Lb lw G3 f50 v lc pp (dn + 1) hv hlc hpp hP hLc hLA hLB hg_f50 (by omega)) vX12_346 [0, 1, 2, 3, 4, 5, 6, 7] [] rfl rfl rfl rfl rfl rfl hl.1 rfl (Nat.le_of_ble_eq_true rfl) ⟨Nat.le_of_ble_eq_true rfl, Nat.le_of_ble_eq_true rfl⟩ ⟨Nat.le_of_ble_eq_true rfl, Nat.le_of_ble_eq_true rfl⟩ dX12_gossips_268 (fun r55 u9 H locs hq hW => ?_)
                            obtain ⟨gq53, gw54, -, hq1_gq53, hq2_gq53, hgw54, rfl⟩ := hq
                            have hW : WD g A s _ _ [(h0, .inr (12, [.int i0, .ref b1, .int i2, .int i3, .int i4, .int i5, .ref b6, .ref b7, .ref b8, .ref b9, .ref b10, .ref b11, .ref b12, .ref b13, .ref b14, .ref b15, .ref b16, .ref b17, .int i18, .int i19, .int i20, .ref b21, .ref b22, .ref b23, .ref b24, .ref b25, .ref b26, .int i27, .ref b28, .ref b29, .ref b30, .ref b31, .ref b32, .ref b33, .ref b34, .ref b35, .ref b36, .int i37, .int i38, .int i39, .int i40, .int i41, .int i42, .int i43, .int i44, .int i45, .ref b46, .ref b47, .ref b48, .ref b49, .ref b50, .ref b51, .ref b52, .ref b53, .ref b54, .ref b55, .ref b56, .ref b57, .ref b58, .ref b59, .ref b60, .ref b61, .ref b62, .ref b63])), (b6, .inl (g.2.1 1, 11, .inl P)), (b7, .inl (g.2.1 1, 11, .inl Lc)), (b12, .inl (g.2.1 1, 132, .inl La)), (b13, .inl (g.2.1 1, 132, .inl Lb)), (b48, .inl (g.2.1 3, 12, .inl lw)), (b46, .inl (g.2.1 1, 112, .inl gq53)), (b47, .inl (g.2.1 1, 16, .inl gw54))] := hW
                            refine lv_if_eq (tgt := 276) (pc := 271) hx hb dX12_gossips_271 rfl (fun c56 => ?_) (fun c56 => ?_)
                            · refine lv_iinc (v := nI (i + 1)) (lv' := [(6, .int (nI (i + 1))), (0, .ref h0), (1, .int (nI v)), (2, .int (nI dn)), (3, .int 2), (4, .int (nI (7 * dn))), (5, .int 0), (7, .int (nI (12 * v + i))), (8, .int (G (7 * dn + ea) ||| G (7 * dn + eb))), (9, .int (nI y))]) (pc := 276) hx hb dX12_gossips_276 hl (k := 6) rfl ((nI_succ i).symm) (by decide) rfl (fun ls hl => ?_)
                              refine lv_goto (tgt := 74) (pc := 279) hx hb dX12_gossips_279 rfl ?_
                              have hW : WD g A s _ _ [(h0, .inr (12, [.int i0, .ref b1, .int i2, .int i3, .int i4, .int i5, .ref b6, .ref b7, .ref b8, .ref b9, .ref b10, .ref b11, .ref b12, .ref b13, .ref b14, .ref b15, .ref b16, .ref b17, .int i18, .int i19, .int i20, .ref b21, .ref b22, .ref b23, .ref b24, .ref b25, .ref b26, .int i27, .ref b28, .ref b29, .ref b30, .ref b31, .ref b32, .ref b33, .ref b34, .ref b35, .ref b36, .int i37, .int i38, .int i39, .int i40, .int i41, .int i42, .int i43, .int i44, .int i45, .ref b46, .ref b47, .ref b48, .ref b49, .ref b50, .ref b51, .ref b52, .ref b53, .ref b54, .ref b55, .ref b56, .ref b57, .ref b58, .ref b59, .ref b60, .ref b61, .ref b62, .ref b63])), (b6, .inl (g.2.1 1, 11, .inl P)), (b7, .inl (g.2.1 1, 11, .inl Lc)), (b12, .inl (g.2.1 1, 132, .inl La)), (b13, .inl (g.2.1 1, 132, .inl Lb)), (b48, .inl (g.2.1 3, 12, .inl lw)), (b46, .inl (g.2.1 1, 112, .inl gq53)), (b47, .inl (g.2.1 1, 16, .inl gw54))] := hW.pick [0, 1, 2, 3, 4, 5, 6, 7] rfl rfl
                              exact ih2 (i + 1) gq53 gw54 (by omega) (by omega) (fun x hx => (hq2_gq53 x (by omega)).trans (hG3 x hx)) hgw54 (gno_s hno (by omega) hea heb eA eB (fun ha9 hb9 hw9 hu9 => fun hg9 => absurd (hq1_gq53 (gok_cong hg9 (fun o ho => (hC o ho).symm))) (by rw [c56]; decide))) _ _ _ hW (lv_sub hl [1, 2, 3, 4, 5, 6, 0] rfl)
                            · refine lv_iconst (v := 1) (pc := 274) hx hb dX12_gossips_274 (by decide) ?_
                              exact e_z X hQ hr hW (u := [(h0, .inr (12, [.int i0, .ref b1, .int i2, .int i3, .int i4, .int i5, .ref b6, .ref b7, .ref b8, .ref b9, .ref b10, .ref b11, .ref b12, .ref b13, .ref b14, .ref b15, .ref b16, .ref b17, .int i18, .int i19, .int i20, .ref b21, .ref b22, .ref b23, .ref b24, .ref b25, .ref b26, .int i27, .ref b28, .ref b29, .ref b30, .ref b31, .ref b32, .ref b33, .ref b34, .ref b35, .ref b36, .int i37, .int i38, .int i39, .int i40, .int i41, .int i42, .int i43, .int i44, .int i45, .ref b46, .ref b47, .ref b48, .ref b49, .ref b50, .ref b51, .ref b52, .ref b53, .ref b54, .ref b55, .ref b56, .ref b57, .ref b58, .ref b59, .ref b60, .ref b61, .ref b62, .ref b63])), (b6, .inl (g.2.1 1, 11, .inl P)), (b7, .inl (g.2.1 1, 11, .inl Lc)), (b12, .inl (g.2.1 1, 132, .inl La)), (b13, .inl (g.2.1 1, 132, .inl Lb)), (b48, .inl (g.2.1 3, 12, .inl lw)), (b46, .inl (g.2.1 1, 112, .inl gq53)), (b47, .inl (g.2.1 1, 16, .inl gw54))]) rfl [0, 1, 2, 3, 4, 5, 6, 7] rfl rfl (⟨_, _, Or.inr rfl, fun _ => rfl, fun x hx => (hq2_gq53 x (by omega)).trans (hG3 x hx), hgw54, rfl⟩) ⟨Nat.le_of_ble_eq_true rfl, Nat.le_of_ble_eq_true rfl⟩ dX12_gossips_275
                          · have hyl : y < pp := ge_f (by omega) (by omega) c49
                            refine lv_aload_n (pc := 194) hx hb dX12_gossips_194 rfl (lv_at hl 0 rfl) ?_
                            refine r_get X hW 0 ciX12 46 rfl (by decide) m_1273 rfl rfl dX12_gossips_195 ?_
                            refine lv_iload (pc := 198) hx hb dX12_gossips_198 (lv_at hl 4 rfl) ?_
                            refine lv_bipush (v := 7) (pc := 200) hx hb dX12_gossips_200 (by decide) ?_
                            refine lv_iadd (pc := 202) hx hb dX12_gossips_202 ?_
                            refine lv_topi (fun uv57 euv57 => ?_)
                            obtain rfl : uv57 = nI (7 * dn + 7) := euv57.trans (nI_add _ _)
                            refine lv_iload (pc := 203) hx hb dX12_gossips_203 (lv_at hl 9 rfl) ?_
                            refine lv_iadd (pc := 205) hx hb dX12_gossips_205 ?_
                            refine lv_topi (fun uv58 euv58 => ?_)
                            obtain rfl : uv58 = nI (7 * dn + 7 + y) := euv58.trans (nI_add _ _)
                            refine lv_iload (pc := 206) hx hb dX12_gossips_206 (lv_at hl 9 rfl) ?_
                            refine lv_aload_n (pc := 208) hx hb dX12_gossips_208 rfl (lv_at hl 0 rfl) ?_
                            refine r_get X hW 0 ciX12 12 rfl (by decide) m_1243 rfl rfl dX12_gossips_209 ?_
                            refine lv_iload (pc := 212) hx hb dX12_gossips_212 (lv_at hl 7 rfl) ?_
                            refine r_iald X hW 3 rfl (vp_in_nI (by omega) (by decide)) dX12_gossips_214 ?_
                            refine lv_topi (fun uv59 euv59 => ?_)
                            obtain rfl : uv59 = nI ea := euv59.trans (by rw [nI_clamp (by omega)]; exact eA)
                            refine lv_icmp_eq (tgt := 230) (pc := 215) hx hb dX12_gossips_215 rfl (fun c60 => ?_) (fun c60 => ?_)
                            · refine lv_iload (pc := 230) hx hb dX12_gossips_230 (lv_at hl 8 rfl) ?_
                              refine lv_goto (tgt := 245) (pc := 232) hx hb dX12_gossips_232 rfl ?_
                              obtain ⟨f61, ef61⟩ : ∃ fz : Nat → Int32, upd G3 (nI (7 * dn + 7 + y)).toNatClampNeg (G (7 * dn + ea) ||| G (7 * dn + eb)) = fz := ⟨_, rfl⟩
                              refine r_iast (ws' := [(h0, .inr (12, [.int i0, .ref b1, .int i2, .int i3, .int i4, .int i5, .ref b6, .ref b7, .ref b8, .ref b9, .ref b10, .ref b11, .ref b12, .ref b13, .ref b14, .ref b15, .ref b16, .ref b17, .int i18, .int i19, .int i20, .ref b21, .ref b22, .ref b23, .ref b24, .ref b25, .ref b26, .int i27, .ref b28, .ref b29, .ref b30, .ref b31, .ref b32, .ref b33, .ref b34, .ref b35, .ref b36, .int i37, .int i38, .int i39, .int i40, .int i41, .int i42, .int i43, .int i44, .int i45, .ref b46, .ref b47, .ref b48, .ref b49, .ref b50, .ref b51, .ref b52, .ref b53, .ref b54, .ref b55, .ref b56, .ref b57, .ref b58, .ref b59, .ref b60, .ref b61, .ref b62, .ref b63])), (b6, .inl (g.2.1 1, 11, .inl P)), (b7, .inl (g.2.1 1, 11, .inl Lc)), (b12, .inl (g.2.1 1, 132, .inl La)), (b13, .inl (g.2.1 1, 132, .inl Lb)), (b48, .inl (g.2.1 3, 12, .inl lw)), (b46, .inl (g.2.1 1, 112, .inl f61)), (b47, .inl (g.2.1 1, 16, .inl gr))]) X hW 6 rfl (vp_in_nI (by omega) (by decide)) ef61 rfl dX12_gossips_245 (fun H locs hW => ?_)
                              refine lv_iinc (v := nI (y + 1)) (lv' := [(9, .int (nI (y + 1))), (0, .ref h0), (1, .int (nI v)), (2, .int (nI dn)), (3, .int 2), (4, .int (nI (7 * dn))), (5, .int 0), (6, .int (nI i)), (7, .int (nI (12 * v + i))), (8, .int (G (7 * dn + ea) ||| G (7 * dn + eb)))]) (pc := 246) hx hb dX12_gossips_246 hl (k := 9) rfl ((nI_succ y).symm) (by decide) rfl (fun ls hl => ?_)
                              refine lv_goto (tgt := 183) (pc := 249) hx hb dX12_gossips_249 rfl ?_
                              have hW : WD g A s _ _ [(h0, .inr (12, [.int i0, .ref b1, .int i2, .int i3, .int i4, .int i5, .ref b6, .ref b7, .ref b8, .ref b9, .ref b10, .ref b11, .ref b12, .ref b13, .ref b14, .ref b15, .ref b16, .ref b17, .int i18, .int i19, .int i20, .ref b21, .ref b22, .ref b23, .ref b24, .ref b25, .ref b26, .int i27, .ref b28, .ref b29, .ref b30, .ref b31, .ref b32, .ref b33, .ref b34, .ref b35, .ref b36, .int i37, .int i38, .int i39, .int i40, .int i41, .int i42, .int i43, .int i44, .int i45, .ref b46, .ref b47, .ref b48, .ref b49, .ref b50, .ref b51, .ref b52, .ref b53, .ref b54, .ref b55, .ref b56, .ref b57, .ref b58, .ref b59, .ref b60, .ref b61, .ref b62, .ref b63])), (b6, .inl (g.2.1 1, 11, .inl P)), (b7, .inl (g.2.1 1, 11, .inl Lc)), (b12, .inl (g.2.1 1, 132, .inl La)), (b13, .inl (g.2.1 1, 132, .inl Lb)), (b48, .inl (g.2.1 3, 12, .inl lw)), (b46, .inl (g.2.1 1, 112, .inl f61)), (b47, .inl (g.2.1 1, 16, .inl gr))] := hW.pick [0, 1, 2, 3, 4, 5, 6, 7] rfl rfl
                              exact ih3 (y + 1) f61 (by omega) (by omega) (fun x hx => by
                                  rw [← ef61, nI_clamp (by omega)]
                                  simp only [upd, show ¬ x = 7 * dn + 7 + y by omega, if_false]
                                  exact hG3 x hx) (fun z hz => by
                                  rw [← ef61, nI_clamp (by omega)]
                                  by_cases e9 : z = y
                                  · subst e9; simp only [upd, if_true]; rw [gaft, if_pos (Or.inl (nI_inj6 (by omega) (by omega) c60))]; rfl
                                  · simp only [upd, show ¬ 7 * dn + 7 + z = 7 * dn + 7 + y by omega, if_false]; exact hC z (by omega)) _ _ _ hW (lv_sub hl [1, 2, 3, 4, 5, 6, 7, 8, 9, 0] rfl)
                            · refine lv_iload (pc := 218) hx hb dX12_gossips_218 (lv_at hl 9 rfl) ?_
                              refine lv_aload_n (pc := 220) hx hb dX12_gossips_220 rfl (lv_at hl 0 rfl) ?_
                              refine r_get X hW 0 ciX12 13 rfl (by decide) m_1244 rfl rfl dX12_gossips_221 ?_
                              refine lv_iload (pc := 224) hx hb dX12_gossips_224 (lv_at hl 7 rfl) ?_
                              refine r_iald X hW 4 rfl (vp_in_nI (by omega) (by decide)) dX12_gossips_226 ?_
                              refine lv_topi (fun uv62 euv62 => ?_)
                              obtain rfl : uv62 = nI eb := euv62.trans (by rw [nI_clamp (by omega)]; exact eB)
                              refine lv_icmp_ne (tgt := 235) (pc := 227) hx hb dX12_gossips_227 rfl (fun c63 => ?_) (fun c63 => ?_)
                              · refine lv_aload_n (pc := 235) hx hb dX12_gossips_235 rfl (lv_at hl 0 rfl) ?_
                                refine r_get X hW 0 ciX12 46 rfl (by decide) m_1273 rfl rfl dX12_gossips_236 ?_
                                refine lv_iload (pc := 239) hx hb dX12_gossips_239 (lv_at hl 4 rfl) ?_
                                refine lv_iload (pc := 241) hx hb dX12_gossips_241 (lv_at hl 9 rfl) ?_
                                refine lv_iadd (pc := 243) hx hb dX12_gossips_243 ?_
                                refine lv_topi (fun uv64 euv64 => ?_)
                                obtain rfl : uv64 = nI (7 * dn + y) := euv64.trans (nI_add _ _)
                                refine r_iald X hW 6 rfl (vp_in_nI (by omega) (by decide)) dX12_gossips_244 ?_
                                refine lv_topi (fun uv65 euv65 => ?_)
                                obtain rfl : uv65 = G (7 * dn + y) := euv65.trans (by rw [nI_clamp (by omega)]; exact hG3 _ (by omega))
                                obtain ⟨f66, ef66⟩ : ∃ fz : Nat → Int32, upd G3 (nI (7 * dn + 7 + y)).toNatClampNeg (G (7 * dn + y)) = fz := ⟨_, rfl⟩
                                refine r_iast (ws' := [(h0, .inr (12, [.int i0, .ref b1, .int i2, .int i3, .int i4, .int i5, .ref b6, .ref b7, .ref b8, .ref b9, .ref b10, .ref b11, .ref b12, .ref b13, .ref b14, .ref b15, .ref b16, .ref b17, .int i18, .int i19, .int i20, .ref b21, .ref b22, .ref b23, .ref b24, .ref b25, .ref b26, .int i27, .ref b28, .ref b29, .ref b30, .ref b31, .ref b32, .ref b33, .ref b34, .ref b35, .ref b36, .int i37, .int i38, .int i39, .int i40, .int i41, .int i42, .int i43, .int i44, .int i45, .ref b46, .ref b47, .ref b48, .ref b49, .ref b50, .ref b51, .ref b52, .ref b53, .ref b54, .ref b55, .ref b56, .ref b57, .ref b58, .ref b59, .ref b60, .ref b61, .ref b62, .ref b63])), (b6, .inl (g.2.1 1, 11, .inl P)), (b7, .inl (g.2.1 1, 11, .inl Lc)), (b12, .inl (g.2.1 1, 132, .inl La)), (b13, .inl (g.2.1 1, 132, .inl Lb)), (b48, .inl (g.2.1 3, 12, .inl lw)), (b46, .inl (g.2.1 1, 112, .inl f66)), (b47, .inl (g.2.1 1, 16, .inl gr))]) X hW 6 rfl (vp_in_nI (by omega) (by decide)) ef66 rfl dX12_gossips_245 (fun H locs hW => ?_)
                                refine lv_iinc (v := nI (y + 1)) (lv' := [(9, .int (nI (y + 1))), (0, .ref h0), (1, .int (nI v)), (2, .int (nI dn)), (3, .int 2), (4, .int (nI (7 * dn))), (5, .int 0), (6, .int (nI i)), (7, .int (nI (12 * v + i))), (8, .int (G (7 * dn + ea) ||| G (7 * dn + eb)))]) (pc := 246) hx hb dX12_gossips_246 hl (k := 9) rfl ((nI_succ y).symm) (by decide) rfl (fun ls hl => ?_)
                                refine lv_goto (tgt := 183) (pc := 249) hx hb dX12_gossips_249 rfl ?_
                                have hW : WD g A s _ _ [(h0, .inr (12, [.int i0, .ref b1, .int i2, .int i3, .int i4, .int i5, .ref b6, .ref b7, .ref b8, .ref b9, .ref b10, .ref b11, .ref b12, .ref b13, .ref b14, .ref b15, .ref b16, .ref b17, .int i18, .int i19, .int i20, .ref b21, .ref b22, .ref b23, .ref b24, .ref b25, .ref b26, .int i27, .ref b28, .ref b29, .ref b30, .ref b31, .ref b32, .ref b33, .ref b34, .ref b35, .ref b36, .int i37, .int i38, .int i39, .int i40, .int i41, .int i42, .int i43, .int i44, .int i45, .ref b46, .ref b47, .ref b48, .ref b49, .ref b50, .ref b51, .ref b52, .ref b53, .ref b54, .ref b55, .ref b56, .ref b57, .ref b58, .ref b59, .ref b60, .ref b61, .ref b62, .ref b63])), (b6, .inl (g.2.1 1, 11, .inl P)), (b7, .inl (g.2.1 1, 11, .inl Lc)), (b12, .inl (g.2.1 1, 132, .inl La)), (b13, .inl (g.2.1 1, 132, .inl Lb)), (b48, .inl (g.2.1 3, 12, .inl lw)), (b46, .inl (g.2.1 1, 112, .inl f66)), (b47, .inl (g.2.1 1, 16, .inl gr))] := hW.pick [0, 1, 2, 3, 4, 5, 6, 7] rfl rfl
                                exact ih3 (y + 1) f66 (by omega) (by omega) (fun x hx => by
                                    rw [← ef66, nI_clamp (by omega)]
                                    simp only [upd, show ¬ x = 7 * dn + 7 + y by omega, if_false]
                                    exact hG3 x hx) (fun z hz => by
                                    rw [← ef66, nI_clamp (by omega)]
                                    by_cases e9 : z = y
                                    · subst e9; simp only [upd, if_true]; rw [gaft, if_neg (fun q => q.elim (fun r => c60 (congrArg nI r)) (fun r => c63 (congrArg nI r)))]; rfl
                                    · simp only [upd, show ¬ 7 * dn + 7 + z = 7 * dn + 7 + y by omega, if_false]; exact hC z (by omega)) _ _ _ hW (lv_sub hl [1, 2, 3, 4, 5, 6, 7, 8, 9, 0] rfl)
                              · refine lv_iload (pc := 230) hx hb dX12_gossips_230 (lv_at hl 8 rfl) ?_
                                refine lv_goto (tgt := 245) (pc := 232) hx hb dX12_gossips_232 rfl ?_
                                obtain ⟨f67, ef67⟩ : ∃ fz : Nat → Int32, upd G3 (nI (7 * dn + 7 + y)).toNatClampNeg (G (7 * dn + ea) ||| G (7 * dn + eb)) = fz := ⟨_, rfl⟩
                                refine r_iast (ws' := [(h0, .inr (12, [.int i0, .ref b1, .int i2, .int i3, .int i4, .int i5, .ref b6, .ref b7, .ref b8, .ref b9, .ref b10, .ref b11, .ref b12, .ref b13, .ref b14, .ref b15, .ref b16, .ref b17, .int i18, .int i19, .int i20, .ref b21, .ref b22, .ref b23, .ref b24, .ref b25, .ref b26, .int i27, .ref b28, .ref b29, .ref b30, .ref b31, .ref b32, .ref b33, .ref b34, .ref b35, .ref b36, .int i37, .int i38, .int i39, .int i40, .int i41, .int i42, .int i43, .int i44, .int i45, .ref b46, .ref b47, .ref b48, .ref b49, .ref b50, .ref b51, .ref b52, .ref b53, .ref b54, .ref b55, .ref b56, .ref b57, .ref b58, .ref b59, .ref b60, .ref b61, .ref b62, .ref b63])), (b6, .inl (g.2.1 1, 11, .inl P)), (b7, .inl (g.2.1 1, 11, .inl Lc)), (b12, .inl (g.2.1 1, 132, .inl La)), (b13, .inl (g.2.1 1, 132, .inl Lb)), (b48, .inl (g.2.1 3, 12, .inl lw)), (b46, .inl (g.2.1 1, 112, .inl f67)), (b47, .inl (g.2.1 1, 16, .inl gr))]) X hW 6 rfl (vp_in_nI (by omega) (by decide)) ef67 rfl dX12_gossips_245 (fun H locs hW => ?_)
                                refine lv_iinc (v := nI (y + 1)) (lv' := [(9, .int (nI (y + 1))), (0, .ref h0), (1, .int (nI v)), (2, .int (nI dn)), (3, .int 2), (4, .int (nI (7 * dn))), (5, .int 0), (6, .int (nI i)), (7, .int (nI (12 * v + i))), (8, .int (G (7 * dn + ea) ||| G (7 * dn + eb)))]) (pc := 246) hx hb dX12_gossips_246 hl (k := 9) rfl ((nI_succ y).symm) (by decide) rfl (fun ls hl => ?_)
                                refine lv_goto (tgt := 183) (pc := 249) hx hb dX12_gossips_249 rfl ?_
                                have hW : WD g A s _ _ [(h0, .inr (12, [.int i0, .ref b1, .int i2, .int i3, .int i4, .int i5, .ref b6, .ref b7, .ref b8, .ref b9, .ref b10, .ref b11, .ref b12, .ref b13, .ref b14, .ref b15, .ref b16, .ref b17, .int i18, .int i19, .int i20, .ref b21, .ref b22, .ref b23, .ref b24, .ref b25, .ref b26, .int i27, .ref b28, .ref b29, .ref b30, .ref b31, .ref b32, .ref b33, .ref b34, .ref b35, .ref b36, .int i37, .int i38, .int i39, .int i40, .int i41, .int i42, .int i43, .int i44, .int i45, .ref b46, .ref b47, .ref b48, .ref b49, .ref b50, .ref b51, .ref b52, .ref b53, .ref b54, .ref b55, .ref b56, .ref b57, .ref b58, .ref b59, .ref b60, .ref b61, .ref b62, .ref b63])), (b6, .inl (g.2.1 1, 11, .inl P)), (b7, .inl (g.2.1 1, 11, .inl Lc)), (b12, .inl (g.2.1 1, 132, .inl La)), (b13, .inl (g.2.1 1, 132, .inl Lb)), (b48, .inl (g.2.1 3, 12, .inl lw)), (b46, .inl (g.2.1 1, 112, .inl f67)), (b47, .inl (g.2.1 1, 16, .inl gr))] := hW.pick [0, 1, 2, 3, 4, 5, 6, 7] rfl rfl
                                exact ih3 (y + 1) f67 (by omega) (by omega) (fun x hx => by
                                    rw [← ef67, nI_clamp (by omega)]
                                    simp only [upd, show ¬ x = 7 * dn + 7 + y by omega, if_false]
                                    exact hG3 x hx) (fun z hz => by
                                    rw [← ef67, nI_clamp (by omega)]
                                    by_cases e9 : z = y
                                    · subst e9; simp only [upd, if_true]; rw [gaft, if_pos (Or.inr (nI_inj6 (by omega) (by omega) c63))]; rfl
                                    · simp only [upd, show ¬ 7 * dn + 7 + z = 7 * dn + 7 + y by omega, if_false]; exact hC z (by omega)) _ _ _ hW (lv_sub hl [1, 2, 3, 4, 5, 6, 7, 8, 9, 0] rfl)
                      exact loop3 (pp + 1) 0 G2 (by omega) (Nat.zero_le _) hG2 (fun z hz => absurd hz (Nat.not_lt_zero z)) _ _ _ hW (lv_sub hl [3, 4, 5, 6, 7, 8, 9, 2, 1, 0] rfl)
                    · refine lv_goto (tgt := 276) (pc := 177) hx hb dX12_gossips_177 rfl ?_
                      refine lv_iinc (v := nI (i + 1)) (lv' := [(6, .int (nI (i + 1))), (8, .int (G (7 * dn + ea) ||| G (7 * dn + eb))), (7, .int (nI (12 * v + i))), (0, .ref h0), (1, .int (nI v)), (2, .int (nI dn)), (3, .int 2), (4, .int (nI (7 * dn))), (5, .int 0)]) (pc := 276) hx hb dX12_gossips_276 hl (k := 8) rfl ((nI_succ i).symm) (by decide) rfl (fun ls hl => ?_)
                      refine lv_goto (tgt := 74) (pc := 279) hx hb dX12_gossips_279 rfl ?_
                      have hW : WD g A s _ _ [(h0, .inr (12, [.int i0, .ref b1, .int i2, .int i3, .int i4, .int i5, .ref b6, .ref b7, .ref b8, .ref b9, .ref b10, .ref b11, .ref b12, .ref b13, .ref b14, .ref b15, .ref b16, .ref b17, .int i18, .int i19, .int i20, .ref b21, .ref b22, .ref b23, .ref b24, .ref b25, .ref b26, .int i27, .ref b28, .ref b29, .ref b30, .ref b31, .ref b32, .ref b33, .ref b34, .ref b35, .ref b36, .int i37, .int i38, .int i39, .int i40, .int i41, .int i42, .int i43, .int i44, .int i45, .ref b46, .ref b47, .ref b48, .ref b49, .ref b50, .ref b51, .ref b52, .ref b53, .ref b54, .ref b55, .ref b56, .ref b57, .ref b58, .ref b59, .ref b60, .ref b61, .ref b62, .ref b63])), (b6, .inl (g.2.1 1, 11, .inl P)), (b7, .inl (g.2.1 1, 11, .inl Lc)), (b12, .inl (g.2.1 1, 132, .inl La)), (b13, .inl (g.2.1 1, 132, .inl Lb)), (b48, .inl (g.2.1 3, 12, .inl lw)), (b46, .inl (g.2.1 1, 112, .inl G2)), (b47, .inl (g.2.1 1, 16, .inl gr))] := hW.pick [0, 1, 2, 3, 4, 5, 6, 7] rfl rfl
                      exact ih2 (i + 1) G2 gr (by omega) (by omega) (hG2) hgr (gno_s hno (by omega) hea heb eA eB (fun ha9 hb9 hw9 hu9 => absurd ⟨h_eA, c47⟩ hu9)) _ _ _ hW (lv_sub hl [3, 4, 5, 6, 7, 8, 0] rfl)
          exact loop2 (lc + 1) 0 G gr0 (by omega) (Nat.zero_le _) (fun x hx => rfl) hg0 gno_0 _ _ _ hW (lv_sub hl [1, 2, 3, 4, 5, 6, 0] rfl)
      · have hkl : k < pp := ge_f (by omega) (by omega) c3
        refine lv_iload (pc := 23) hx hb dX12_gossips_23 (lv_at hl 5 rfl) ?_
        refine lv_if_eq (tgt := 50) (pc := 25) hx hb dX12_gossips_25 rfl (fun c68 => ?_) (fun c68 => ?_)
        · refine lv_iconst (v := 0) (pc := 50) hx hb dX12_gossips_50 (by decide) ?_
          refine lv_istore (lv' := [(5, .int 0), (0, .ref h0), (1, .int (nI v)), (2, .int (nI dn)), (3, .int 2), (4, .int (nI (7 * dn))), (6, .int (nI k))]) (pc := 51) hx hb dX12_gossips_51 hl (by decide) rfl (fun ls hl => ?_)
          refine lv_iinc (v := nI (k + 1)) (lv' := [(6, .int (nI (k + 1))), (5, .int 0), (0, .ref h0), (1, .int (nI v)), (2, .int (nI dn)), (3, .int 2), (4, .int (nI (7 * dn)))]) (pc := 53) hx hb dX12_gossips_53 hl (k := 6) rfl ((nI_succ k).symm) (by decide) rfl (fun ls hl => ?_)
          refine lv_goto (tgt := 12) (pc := 56) hx hb dX12_gossips_56 rfl ?_
          have hW : WD g A s _ _ [(h0, .inr (12, [.int i0, .ref b1, .int i2, .int i3, .int i4, .int i5, .ref b6, .ref b7, .ref b8, .ref b9, .ref b10, .ref b11, .ref b12, .ref b13, .ref b14, .ref b15, .ref b16, .ref b17, .int i18, .int i19, .int i20, .ref b21, .ref b22, .ref b23, .ref b24, .ref b25, .ref b26, .int i27, .ref b28, .ref b29, .ref b30, .ref b31, .ref b32, .ref b33, .ref b34, .ref b35, .ref b36, .int i37, .int i38, .int i39, .int i40, .int i41, .int i42, .int i43, .int i44, .int i45, .ref b46, .ref b47, .ref b48, .ref b49, .ref b50, .ref b51, .ref b52, .ref b53, .ref b54, .ref b55, .ref b56, .ref b57, .ref b58, .ref b59, .ref b60, .ref b61, .ref b62, .ref b63])), (b6, .inl (g.2.1 1, 11, .inl P)), (b7, .inl (g.2.1 1, 11, .inl Lc)), (b12, .inl (g.2.1 1, 132, .inl La)), (b13, .inl (g.2.1 1, 132, .inl Lb)), (b48, .inl (g.2.1 3, 12, .inl lw)), (b46, .inl (g.2.1 1, 112, .inl G)), (b47, .inl (g.2.1 1, 16, .inl gr0))] := hW.pick [0, 1, 2, 3, 4, 5, 6, 7] rfl rfl
          exact ih1 (k + 1) 0 (by omega) (by omega) (Or.inr ⟨rfl, (hal.resolve_left (fun r => absurd (r.1.symm.trans c68) (by decide))).2⟩) _ _ _ hW (lv_sub hl [2, 3, 4, 5, 6, 1, 0] rfl)
        · have hal9 : ¬ al = 0 := c68
          have hal1 : ¬ al = 0 → ∀ o : Nat, o < k → (rwt G dn) o = evy (nI pp) := fun q => (hal.resolve_right (fun r => q r.1)).2
          refine lv_aload_n (pc := 28) hx hb dX12_gossips_28 rfl (lv_at hl 0 rfl) ?_
          refine r_get X hW 0 ciX12 46 rfl (by decide) m_1273 rfl rfl dX12_gossips_29 ?_
          refine lv_iload (pc := 32) hx hb dX12_gossips_32 (lv_at hl 4 rfl) ?_
          refine lv_iload (pc := 34) hx hb dX12_gossips_34 (lv_at hl 6 rfl) ?_
          refine lv_iadd (pc := 36) hx hb dX12_gossips_36 ?_
          refine lv_topi (fun uv69 euv69 => ?_)
          obtain rfl : uv69 = nI (7 * dn + k) := euv69.trans (nI_add _ _)
          refine r_iald X hW 6 rfl (vp_in_nI (by omega) (by decide)) dX12_gossips_37 ?_
          refine lv_topi (fun uv70 euv70 => ?_)
          obtain rfl : uv70 = G (7 * dn + k) := euv70.trans (by rw [nI_clamp (by omega)])
          refine lv_aload_n (pc := 38) hx hb dX12_gossips_38 rfl (lv_at hl 0 rfl) ?_
          refine lv_iload_n (pc := 39) hx hb dX12_gossips_39 rfl (lv_at hl 1 rfl) ?_
          refine c_Vi (pc := 40) (As := [.int (nI v)]) (rest := [.int (G (7 * dn + k))]) (wr := [(b7, .inl (g.2.1 1, 11, .inl Lc)), (b12, .inl (g.2.1 1, 132, .inl La)), (b13, .inl (g.2.1 1, 132, .inl Lb)), (b48, .inl (g.2.1 3, 12, .inl lw)), (b46, .inl (g.2.1 1, 112, .inl G)), (b47, .inl (g.2.1 1, 16, .inl gr0))]) X hW 0 ciX12 rfl (C_X12_everybodyG l g h0 b1 b6 b7 b8 b9 b10 b11 b12 b13 b14 b15 b16 b17 b21 b22 b23 b24 b25 b26 b28 b29 b30 b31 b32 b33 b34 b35 b36 b46 b47 b48 b49 b50 b51 b52 b53 b54 b55 b56 b57 b58 b59 b60 b61 b62 b63 i0 i2 i3 i4 i5 i18 i19 i20 i27 i37 i38 i39 i40 i41 i42 i43 i44 i45 P v (by omega)) vX12_274 [0, 1] [2, 3, 4, 5, 6, 7] rfl rfl rfl rfl rfl rfl hl.1 rfl (Nat.le_of_ble_eq_true rfl) ⟨Nat.le_of_ble_eq_true rfl, Nat.le_of_ble_eq_true rfl⟩ ⟨Nat.le_of_ble_eq_true rfl, Nat.le_of_ble_eq_true rfl⟩ dX12_gossips_40 (fun r71 u9 H locs hq hW => ?_)
          obtain ⟨rfl, rfl⟩ := hq
          have hW : WD g A s _ _ [(b7, .inl (g.2.1 1, 11, .inl Lc)), (b12, .inl (g.2.1 1, 132, .inl La)), (b13, .inl (g.2.1 1, 132, .inl Lb)), (b48, .inl (g.2.1 3, 12, .inl lw)), (b46, .inl (g.2.1 1, 112, .inl G)), (b47, .inl (g.2.1 1, 16, .inl gr0)), (h0, .inr (12, [.int i0, .ref b1, .int i2, .int i3, .int i4, .int i5, .ref b6, .ref b7, .ref b8, .ref b9, .ref b10, .ref b11, .ref b12, .ref b13, .ref b14, .ref b15, .ref b16, .ref b17, .int i18, .int i19, .int i20, .ref b21, .ref b22, .ref b23, .ref b24, .ref b25, .ref b26, .int i27, .ref b28, .ref b29, .ref b30, .ref b31, .ref b32, .ref b33, .ref b34, .ref b35, .ref b36, .int i37, .int i38, .int i39, .int i40, .int i41, .int i42, .int i43, .int i44, .int i45, .ref b46, .ref b47, .ref b48, .ref b49, .ref b50, .ref b51, .ref b52, .ref b53, .ref b54, .ref b55, .ref b56, .ref b57, .ref b58, .ref b59, .ref b60, .ref b61, .ref b62, .ref b63])), (b6, .inl (g.2.1 1, 11, .inl P))] := hW
          refine lv_icmp_ne (tgt := 50) (pc := 43) hx hb dX12_gossips_43 rfl (fun c72 => ?_) (fun c72 => ?_)
          · refine lv_iconst (v := 0) (pc := 50) hx hb dX12_gossips_50 (by decide) ?_
            refine lv_istore (lv' := [(5, .int 0), (0, .ref h0), (1, .int (nI v)), (2, .int (nI dn)), (3, .int 2), (4, .int (nI (7 * dn))), (6, .int (nI k))]) (pc := 51) hx hb dX12_gossips_51 hl (by decide) rfl (fun ls hl => ?_)
            refine lv_iinc (v := nI (k + 1)) (lv' := [(6, .int (nI (k + 1))), (5, .int 0), (0, .ref h0), (1, .int (nI v)), (2, .int (nI dn)), (3, .int 2), (4, .int (nI (7 * dn)))]) (pc := 53) hx hb dX12_gossips_53 hl (k := 6) rfl ((nI_succ k).symm) (by decide) rfl (fun ls hl => ?_)
            refine lv_goto (tgt := 12) (pc := 56) hx hb dX12_gossips_56 rfl ?_
            have hW : WD g A s _ _ [(h0, .inr (12, [.int i0, .ref b1, .int i2, .int i3, .int i4, .int i5, .ref b6, .ref b7, .ref b8, .ref b9, .ref b10, .ref b11, .ref b12, .ref b13, .ref b14, .ref b15, .ref b16, .ref b17, .int i18, .int i19, .int i20, .ref b21, .ref b22, .ref b23, .ref b24, .ref b25, .ref b26, .int i27, .ref b28, .ref b29, .ref b30, .ref b31, .ref b32, .ref b33, .ref b34, .ref b35, .ref b36, .int i37, .int i38, .int i39, .int i40, .int i41, .int i42, .int i43, .int i44, .int i45, .ref b46, .ref b47, .ref b48, .ref b49, .ref b50, .ref b51, .ref b52, .ref b53, .ref b54, .ref b55, .ref b56, .ref b57, .ref b58, .ref b59, .ref b60, .ref b61, .ref b62, .ref b63])), (b6, .inl (g.2.1 1, 11, .inl P)), (b7, .inl (g.2.1 1, 11, .inl Lc)), (b12, .inl (g.2.1 1, 132, .inl La)), (b13, .inl (g.2.1 1, 132, .inl Lb)), (b48, .inl (g.2.1 3, 12, .inl lw)), (b46, .inl (g.2.1 1, 112, .inl G)), (b47, .inl (g.2.1 1, 16, .inl gr0))] := hW.pick [6, 7, 0, 1, 2, 3, 4, 5] rfl rfl
            exact ih1 (k + 1) 0 (by omega) (by omega) (Or.inr ⟨rfl, (fun q => c72 (by have := q k hkl; rw [hP]; exact this))⟩) _ _ _ hW (lv_sub hl [2, 3, 4, 5, 6, 1, 0] rfl)
          · refine lv_iconst (v := 1) (pc := 46) hx hb dX12_gossips_46 (by decide) ?_
            refine lv_goto (tgt := 51) (pc := 47) hx hb dX12_gossips_47 rfl ?_
            refine lv_istore (lv' := [(5, .int 1), (0, .ref h0), (1, .int (nI v)), (2, .int (nI dn)), (3, .int 2), (4, .int (nI (7 * dn))), (6, .int (nI k))]) (pc := 51) hx hb dX12_gossips_51 hl (by decide) rfl (fun ls hl => ?_)
            refine lv_iinc (v := nI (k + 1)) (lv' := [(6, .int (nI (k + 1))), (5, .int 1), (0, .ref h0), (1, .int (nI v)), (2, .int (nI dn)), (3, .int 2), (4, .int (nI (7 * dn)))]) (pc := 53) hx hb dX12_gossips_53 hl (k := 6) rfl ((nI_succ k).symm) (by decide) rfl (fun ls hl => ?_)
            refine lv_goto (tgt := 12) (pc := 56) hx hb dX12_gossips_56 rfl ?_
            have hW : WD g A s _ _ [(h0, .inr (12, [.int i0, .ref b1, .int i2, .int i3, .int i4, .int i5, .ref b6, .ref b7, .ref b8, .ref b9, .ref b10, .ref b11, .ref b12, .ref b13, .ref b14, .ref b15, .ref b16, .ref b17, .int i18, .int i19, .int i20, .ref b21, .ref b22, .ref b23, .ref b24, .ref b25, .ref b26, .int i27, .ref b28, .ref b29, .ref b30, .ref b31, .ref b32, .ref b33, .ref b34, .ref b35, .ref b36, .int i37, .int i38, .int i39, .int i40, .int i41, .int i42, .int i43, .int i44, .int i45, .ref b46, .ref b47, .ref b48, .ref b49, .ref b50, .ref b51, .ref b52, .ref b53, .ref b54, .ref b55, .ref b56, .ref b57, .ref b58, .ref b59, .ref b60, .ref b61, .ref b62, .ref b63])), (b6, .inl (g.2.1 1, 11, .inl P)), (b7, .inl (g.2.1 1, 11, .inl Lc)), (b12, .inl (g.2.1 1, 132, .inl La)), (b13, .inl (g.2.1 1, 132, .inl Lb)), (b48, .inl (g.2.1 3, 12, .inl lw)), (b46, .inl (g.2.1 1, 112, .inl G)), (b47, .inl (g.2.1 1, 16, .inl gr0))] := hW.pick [6, 7, 0, 1, 2, 3, 4, 5] rfl rfl
            exact ih1 (k + 1) 1 (by omega) (by omega) (Or.inl ⟨rfl, gall_s (p := pp) (hal1 hal9) (by show G (7 * dn + k) = _; rw [c72, hP])⟩) _ _ _ hW (lv_sub hl [2, 3, 4, 5, 6, 1, 0] rfl)
  exact loop1 (pp + 1) 0 1 (by omega) (Nat.zero_le _) (Or.inl ⟨rfl, fun o ho => absurd ho (Nat.not_lt_zero o)⟩) _ _ _ hW (lv_sub hl [3, 4, 5, 6, 2, 1, 0] rfl)

set_option maxHeartbeats 40000000 in
set_option maxRecDepth 100000 in
theorem C_X12_gossips_3 (l : Launch) (g : GG) (h0 b1 b6 b7 b8 b9 b10 b11 b12 b13 b14 b15 b16 b17 b21 b22 b23 b24 b25 b26 b28 b29 b30 b31 b32 b33 b34 b35 b36 b46 b47 b48 b49 b50 b51 b52 b53 b54 b55 b56 b57 b58 b59 b60 b61 b62 b63 : Nat) (i0 i2 i3 i4 i5 i18 i19 i20 i27 i37 i38 i39 i40 i41 i42 i43 i44 i45 : Int32) (P Lc La Lb lw G gr0 : Nat → Int32) (v lc pp dn : Nat) (hv : v ≤ 10) (hlc : lc ≤ 12) (hpp : pp ≤ 7) (hP : P v = nI pp) (hLc : Lc v = nI lc) (hLA : in6 La) (hLB : in6 Lb) (hg0 : gb16 gr0) (hdn : dn + 3 ≤ 15) : MetI l g yX12_gossips cX12_gossips 10 (some .boolean) 4 0 0 [.ref h0, .int (nI v), .int (nI dn), .int 3] [(h0, .inr (12, [.int i0, .ref b1, .int i2, .int i3, .int i4, .int i5, .ref b6, .ref b7, .ref b8, .ref b9, .ref b10, .ref b11, .ref b12, .ref b13, .ref b14, .ref b15, .ref b16, .ref b17, .int i18, .int i19, .int i20, .ref b21, .ref b22, .ref b23, .ref b24, .ref b25, .ref b26, .int i27, .ref b28, .ref b29, .ref b30, .ref b31, .ref b32, .ref b33, .ref b34, .ref b35, .ref b36, .int i37, .int i38, .int i39, .int i40, .int i41, .int i42, .int i43, .int i44, .int i45, .ref b46, .ref b47, .ref b48, .ref b49, .ref b50, .ref b51, .ref b52, .ref b53, .ref b54, .ref b55, .ref b56, .ref b57, .ref b58, .ref b59, .ref b60, .ref b61, .ref b62, .ref b63])), (b6, .inl (g.2.1 1, 11, .inl P)), (b7, .inl (g.2.1 1, 11, .inl Lc)), (b12, .inl (g.2.1 1, 132, .inl La)), (b13, .inl (g.2.1 1, 132, .inl Lb)), (b48, .inl (g.2.1 3, 12, .inl lw)), (b46, .inl (g.2.1 1, 112, .inl G)), (b47, .inl (g.2.1 1, 16, .inl gr0))] (fun r u => ∃ G' gr' : Nat → Int32, (r = 0 ∨ r = 1) ∧ (gok (gV La Lb lw v lc) pp (evy (nI pp)) 3 (rwt G dn) → r = 1) ∧ (∀ x : Nat, x < 7 * (dn + 1) → G' x = G x) ∧ gb16 gr' ∧ u = [(h0, .inr (12, [.int i0, .ref b1, .int i2, .int i3, .int i4, .int i5, .ref b6, .ref b7, .ref b8, .ref b9, .ref b10, .ref b11, .ref b12, .ref b13, .ref b14, .ref b15, .ref b16, .ref b17, .int i18, .int i19, .int i20, .ref b21, .ref b22, .ref b23, .ref b24, .ref b25, .ref b26, .int i27, .ref b28, .ref b29, .ref b30, .ref b31, .ref b32, .ref b33, .ref b34, .ref b35, .ref b36, .int i37, .int i38, .int i39, .int i40, .int i41, .int i42, .int i43, .int i44, .int i45, .ref b46, .ref b47, .ref b48, .ref b49, .ref b50, .ref b51, .ref b52, .ref b53, .ref b54, .ref b55, .ref b56, .ref b57, .ref b58, .ref b59, .ref b60, .ref b61, .ref b62, .ref b63])), (b6, .inl (g.2.1 1, 11, .inl P)), (b7, .inl (g.2.1 1, 11, .inl Lc)), (b12, .inl (g.2.1 1, 132, .inl La)), (b13, .inl (g.2.1 1, 132, .inl Lb)), (b48, .inl (g.2.1 3, 12, .inl lw)), (b46, .inl (g.2.1 1, 112, .inl G')), (b47, .inl (g.2.1 1, 16, .inl gr'))]) := by
  refine MetI.of (own := RX12) rfl (by decide) (Nat.le_of_ble_eq_true rfl) ?_
  intro p e s m below meth c A ls args Q hQ X hr hin hW hl
  have hx := X.1
  have hb := X.2.1
  have hl : lv_has ls 10 [(0, .ref h0), (1, .int (nI v)), (2, .int (nI dn)), (3, .int 3)] := hl
  refine lv_bipush (v := 7) (pc := 0) hx hb dX12_gossips_0 (by decide) ?_
  refine lv_iload_n (pc := 2) hx hb dX12_gossips_2 rfl (lv_at hl 2 rfl) ?_
  refine lv_imul (pc := 3) hx hb dX12_gossips_3 ?_
  refine lv_topi (fun uv1 euv1 => ?_)
  obtain rfl : uv1 = nI (7 * dn) := euv1.trans (pk_mul _ _)
  refine lv_istore (lv' := [(4, .int (nI (7 * dn))), (0, .ref h0), (1, .int (nI v)), (2, .int (nI dn)), (3, .int 3)]) (pc := 4) hx hb dX12_gossips_4 hl (by decide) rfl (fun ls hl => ?_)
  refine lv_iconst (v := 1) (pc := 6) hx hb dX12_gossips_6 (by decide) ?_
  refine lv_istore (lv' := [(5, .int 1), (4, .int (nI (7 * dn))), (0, .ref h0), (1, .int (nI v)), (2, .int (nI dn)), (3, .int 3)]) (pc := 7) hx hb dX12_gossips_7 hl (by decide) rfl (fun ls hl => ?_)
  refine lv_iconst (v := 0) (pc := 9) hx hb dX12_gossips_9 (by decide) ?_
  refine lv_istore (lv' := [(6, .int 0), (5, .int 1), (4, .int (nI (7 * dn))), (0, .ref h0), (1, .int (nI v)), (2, .int (nI dn)), (3, .int 3)]) (pc := 10) hx hb dX12_gossips_10 hl (by decide) rfl (fun ls hl => ?_)
  have loop1 : ∀ (fu : Nat) (k : Nat) (al : Int32), (pp < fu + k) → (k ≤ pp) → ((al = 1 ∧ ∀ o : Nat, o < k → (rwt G dn) o = evy (nI pp)) ∨ (al = 0 ∧ ¬ gall pp (evy (nI pp)) (rwt G dn))) → ∀ (H : Heap) (locs : List Loc) (ls : Array Slot), WD g A s H locs [(h0, .inr (12, [.int i0, .ref b1, .int i2, .int i3, .int i4, .int i5, .ref b6, .ref b7, .ref b8, .ref b9, .ref b10, .ref b11, .ref b12, .ref b13, .ref b14, .ref b15, .ref b16, .ref b17, .int i18, .int i19, .int i20, .ref b21, .ref b22, .ref b23, .ref b24, .ref b25, .ref b26, .int i27, .ref b28, .ref b29, .ref b30, .ref b31, .ref b32, .ref b33, .ref b34, .ref b35, .ref b36, .int i37, .int i38, .int i39, .int i40, .int i41, .int i42, .int i43, .int i44, .int i45, .ref b46, .ref b47, .ref b48, .ref b49, .ref b50, .ref b51, .ref b52, .ref b53, .ref b54, .ref b55, .ref b56, .ref b57, .ref b58, .ref b59, .ref b60, .ref b61, .ref b62, .ref b63])), (b6, .inl (g.2.1 1, 11, .inl P)), (b7, .inl (g.2.1 1, 11, .inl Lc)), (b12, .inl (g.2.1 1, 132, .inl La)), (b13, .inl (g.2.1 1, 132, .inl Lb)), (b48, .inl (g.2.1 3, 12, .inl lw)), (b46, .inl (g.2.1 1, 112, .inl G)), (b47, .inl (g.2.1 1, 16, .inl gr0))] → lv_has ls 10 [(0, .ref h0), (1, .int (nI v)), (2, .int (nI dn)), (3, .int 3), (4, .int (nI (7 * dn))), (5, .int al), (6, .int (nI k))] → W p l e (RM 4 0 0) s m args below meth c H locs 0 0 Q (F0 m 12 ls []) := by
    intro fu
    induction fu with
    | zero =>
      intro k al hm hk hal
      exact absurd hm (by omega)
    | succ fu ih1 =>
      intro k al hm hk hal H locs ls hW hl
      refine lv_iload (pc := 12) hx hb dX12_gossips_12 (lv_at hl 6 rfl) ?_
      refine lv_aload_n (pc := 14) hx hb dX12_gossips_14 rfl (lv_at hl 0 rfl) ?_
      refine r_get X hW 0 ciX12 6 rfl (by decide) m_1237 rfl rfl dX12_gossips_15 ?_
      refine lv_iload_n (pc := 18) hx hb dX12_gossips_18 rfl (lv_at hl 1 rfl) ?_
      refine r_iald X hW 1 rfl (vp_in_nI (by omega) (by decide)) dX12_gossips_19 ?_
      refine lv_topi (fun uv2 euv2 => ?_)
      obtain rfl : uv2 = nI pp := euv2.trans (by rw [nI_clamp (by omega)]; exact hP)
      refine lv_icmp_ge (tgt := 59) (pc := 20) hx hb dX12_gossips_20 rfl (fun c3 => ?_) (fun c3 => ?_)
      · have hkp : k = pp := Nat.le_antisymm hk (ge_t (by omega) (by omega) c3)
        rw [hkp] at hal
        rcases hal with ⟨ha1, hal⟩ | ⟨ha1, hal⟩
        · subst ha1
          refine lv_iload (pc := 59) hx hb dX12_gossips_59 (lv_at hl 5 rfl) ?_
          refine lv_if_ne (tgt := 68) (pc := 61) hx hb dX12_gossips_61 rfl (fun c4 => ?_) (fun c4 => absurd c4 (by decide))
          refine lv_iload (pc := 68) hx hb dX12_gossips_68 (lv_at hl 5 rfl) ?_
          exact e_z X hQ hr hW (u := [(h0, .inr (12, [.int i0, .ref b1, .int i2, .int i3, .int i4, .int i5, .ref b6, .ref b7, .ref b8, .ref b9, .ref b10, .ref b11, .ref b12, .ref b13, .ref b14, .ref b15, .ref b16, .ref b17, .int i18, .int i19, .int i20, .ref b21, .ref b22, .ref b23, .ref b24, .ref b25, .ref b26, .int i27, .ref b28, .ref b29, .ref b30, .ref b31, .ref b32, .ref b33, .ref b34, .ref b35, .ref b36, .int i37, .int i38, .int i39, .int i40, .int i41, .int i42, .int i43, .int i44, .int i45, .ref b46, .ref b47, .ref b48, .ref b49, .ref b50, .ref b51, .ref b52, .ref b53, .ref b54, .ref b55, .ref b56, .ref b57, .ref b58, .ref b59, .ref b60, .ref b61, .ref b62, .ref b63])), (b6, .inl (g.2.1 1, 11, .inl P)), (b7, .inl (g.2.1 1, 11, .inl Lc)), (b12, .inl (g.2.1 1, 132, .inl La)), (b13, .inl (g.2.1 1, 132, .inl Lb)), (b48, .inl (g.2.1 3, 12, .inl lw)), (b46, .inl (g.2.1 1, 112, .inl G)), (b47, .inl (g.2.1 1, 16, .inl gr0))]) rfl [0, 1, 2, 3, 4, 5, 6, 7] rfl rfl (⟨_, _, Or.inr rfl, fun _ => rfl, fun x hx => rfl, hg0, rfl⟩) ⟨Nat.le_of_ble_eq_true rfl, Nat.le_of_ble_eq_true rfl⟩ dX12_gossips_70
        · subst ha1
          refine lv_iload (pc := 59) hx hb dX12_gossips_59 (lv_at hl 5 rfl) ?_
          refine lv_if_ne (tgt := 68) (pc := 61) hx hb dX12_gossips_61 rfl (fun c5 => absurd (by decide) c5) (fun c5 => ?_)
          refine lv_iload_n (pc := 64) hx hb dX12_gossips_64 rfl (lv_at hl 3 rfl) ?_
          refine lv_if_ne (tgt := 71) (pc := 65) hx hb dX12_gossips_65 rfl (fun c6 => ?_) (fun c6 => absurd c6 (by decide))
          refine lv_iconst (v := 0) (pc := 71) hx hb dX12_gossips_71 (by decide) ?_
          refine lv_istore (lv' := [(6, .int 0), (0, .ref h0), (1, .int (nI v)), (2, .int (nI dn)), (3, .int 3), (4, .int (nI (7 * dn))), (5, .int 0)]) (pc := 72) hx hb dX12_gossips_72 hl (by decide) rfl (fun ls hl => ?_)
          have hW : WD g A s _ _ [(h0, .inr (12, [.int i0, .ref b1, .int i2, .int i3, .int i4, .int i5, .ref b6, .ref b7, .ref b8, .ref b9, .ref b10, .ref b11, .ref b12, .ref b13, .ref b14, .ref b15, .ref b16, .ref b17, .int i18, .int i19, .int i20, .ref b21, .ref b22, .ref b23, .ref b24, .ref b25, .ref b26, .int i27, .ref b28, .ref b29, .ref b30, .ref b31, .ref b32, .ref b33, .ref b34, .ref b35, .ref b36, .int i37, .int i38, .int i39, .int i40, .int i41, .int i42, .int i43, .int i44, .int i45, .ref b46, .ref b47, .ref b48, .ref b49, .ref b50, .ref b51, .ref b52, .ref b53, .ref b54, .ref b55, .ref b56, .ref b57, .ref b58, .ref b59, .ref b60, .ref b61, .ref b62, .ref b63])), (b6, .inl (g.2.1 1, 11, .inl P)), (b7, .inl (g.2.1 1, 11, .inl Lc)), (b12, .inl (g.2.1 1, 132, .inl La)), (b13, .inl (g.2.1 1, 132, .inl Lb)), (b48, .inl (g.2.1 3, 12, .inl lw)), (b46, .inl (g.2.1 1, 112, .inl G)), (b47, .inl (g.2.1 1, 16, .inl gr0))] := hW.pick [0, 1, 2, 3, 4, 5, 6, 7] rfl rfl
          have loop2 : ∀ (fv : Nat) (i : Nat) (G2 : Nat → Int32) (gr : Nat → Int32), (lc < fv + i) → (i ≤ lc) → (∀ x : Nat, x < 7 * (dn + 1) → G2 x = G x) → (gb16 gr) → (gno La Lb lw v lc pp (evy (nI pp)) 2 (rwt G dn) i) → ∀ (H : Heap) (locs : List Loc) (ls : Array Slot), WD g A s H locs [(h0, .inr (12, [.int i0, .ref b1, .int i2, .int i3, .int i4, .int i5, .ref b6, .ref b7, .ref b8, .ref b9, .ref b10, .ref b11, .ref b12, .ref b13, .ref b14, .ref b15, .ref b16, .ref b17, .int i18, .int i19, .int i20, .ref b21, .ref b22, .ref b23, .ref b24, .ref b25, .ref b26, .int i27, .ref b28, .ref b29, .ref b30, .ref b31, .ref b32, .ref b33, .ref b34, .ref b35, .ref b36, .int i37, .int i38, .int i39, .int i40, .int i41, .int i42, .int i43, .int i44, .int i45, .ref b46, .ref b47, .ref b48, .ref b49, .ref b50, .ref b51, .ref b52, .ref b53, .ref b54, .ref b55, .ref b56, .ref b57, .ref b58, .ref b59, .ref b60, .ref b61, .ref b62, .ref b63])), (b6, .inl (g.2.1 1, 11, .inl P)), (b7, .inl (g.2.1 1, 11, .inl Lc)), (b12, .inl (g.2.1 1, 132, .inl La)), (b13, .inl (g.2.1 1, 132, .inl Lb)), (b48, .inl (g.2.1 3, 12, .inl lw)), (b46, .inl (g.2.1 1, 112, .inl G2)), (b47, .inl (g.2.1 1, 16, .inl gr))] → lv_has ls 10 [(0, .ref h0), (1, .int (nI v)), (2, .int (nI dn)), (3, .int 3), (4, .int (nI (7 * dn))), (5, .int 0), (6, .int (nI i))] → W p l e (RM 4 0 0) s m args below meth c H locs 0 0 Q (F0 m 74 ls []) := by
            intro fv
            induction fv with
            | zero =>
              intro i G2 gr hm2 hi hG2 hgr hno
              exact absurd hm2 (by omega)
            | succ fv ih2 =>
              intro i G2 gr hm2 hi hG2 hgr hno H locs ls hW hl
              refine lv_iload (pc := 74) hx hb dX12_gossips_74 (lv_at hl 6 rfl) ?_
              refine lv_aload_n (pc := 76) hx hb dX12_gossips_76 rfl (lv_at hl 0 rfl) ?_
              refine r_get X hW 0 ciX12 7 rfl (by decide) m_1238 rfl rfl dX12_gossips_77 ?_
              refine lv_iload_n (pc := 80) hx hb dX12_gossips_80 rfl (lv_at hl 1 rfl) ?_
              refine r_iald X hW 2 rfl (vp_in_nI (by omega) (by decide)) dX12_gossips_81 ?_
              refine lv_topi (fun uv7 euv7 => ?_)
              obtain rfl : uv7 = nI lc := euv7.trans (by rw [nI_clamp (by omega)]; exact hLc)
              refine lv_icmp_ge (tgt := 282) (pc := 82) hx hb dX12_gossips_82 rfl (fun c8 => ?_) (fun c8 => ?_)
              · have hie : i = lc := Nat.le_antisymm hi (ge_t (by omega) (by omega) c8)
                refine lv_iconst (v := 0) (pc := 282) hx hb dX12_gossips_282 (by decide) ?_
                exact e_z X hQ hr hW (u := [(h0, .inr (12, [.int i0, .ref b1, .int i2, .int i3, .int i4, .int i5, .ref b6, .ref b7, .ref b8, .ref b9, .ref b10, .ref b11, .ref b12, .ref b13, .ref b14, .ref b15, .ref b16, .ref b17, .int i18, .int i19, .int i20, .ref b21, .ref b22, .ref b23, .ref b24, .ref b25, .ref b26, .int i27, .ref b28, .ref b29, .ref b30, .ref b31, .ref b32, .ref b33, .ref b34, .ref b35, .ref b36, .int i37, .int i38, .int i39, .int i40, .int i41, .int i42, .int i43, .int i44, .int i45, .ref b46, .ref b47, .ref b48, .ref b49, .ref b50, .ref b51, .ref b52, .ref b53, .ref b54, .ref b55, .ref b56, .ref b57, .ref b58, .ref b59, .ref b60, .ref b61, .ref b62, .ref b63])), (b6, .inl (g.2.1 1, 11, .inl P)), (b7, .inl (g.2.1 1, 11, .inl Lc)), (b12, .inl (g.2.1 1, 132, .inl La)), (b13, .inl (g.2.1 1, 132, .inl Lb)), (b48, .inl (g.2.1 3, 12, .inl lw)), (b46, .inl (g.2.1 1, 112, .inl G2)), (b47, .inl (g.2.1 1, 16, .inl gr))]) rfl [0, 1, 2, 3, 4, 5, 6, 7] rfl rfl (⟨_, _, Or.inl rfl, fun q => absurd q (gno_end hno hie hal), hG2, hgr, rfl⟩) ⟨Nat.le_of_ble_eq_true rfl, Nat.le_of_ble_eq_true rfl⟩ dX12_gossips_283
              · have hil : i < lc := ge_f (by omega) (by omega) c8
                obtain ⟨ea, hea, eA⟩ := hLA (12 * v + i) (by omega)
                obtain ⟨eb, heb, eB⟩ := hLB (12 * v + i) (by omega)
                refine lv_bipush (v := 12) (pc := 85) hx hb dX12_gossips_85 (by decide) ?_
                refine lv_iload_n (pc := 87) hx hb dX12_gossips_87 rfl (lv_at hl 1 rfl) ?_
                refine lv_imul (pc := 88) hx hb dX12_gossips_88 ?_
                refine lv_topi (fun uv9 euv9 => ?_)
                obtain rfl : uv9 = nI (12 * v) := euv9.trans (pk_mul _ _)
                refine lv_iload (pc := 89) hx hb dX12_gossips_89 (lv_at hl 6 rfl) ?_
                refine lv_iadd (pc := 91) hx hb dX12_gossips_91 ?_
                refine lv_topi (fun uv10 euv10 => ?_)
                obtain rfl : uv10 = nI (12 * v + i) := euv10.trans (nI_add _ _)
                refine lv_istore (lv' := [(7, .int (nI (12 * v + i))), (0, .ref h0), (1, .int (nI v)), (2, .int (nI dn)), (3, .int 3), (4, .int (nI (7 * dn))), (5, .int 0), (6, .int (nI i))]) (pc := 92) hx hb dX12_gossips_92 hl (by decide) rfl (fun ls hl => ?_)
                refine lv_aload_n (pc := 94) hx hb dX12_gossips_94 rfl (lv_at hl 1 rfl) ?_
                refine r_get X hW 0 ciX12 46 rfl (by decide) m_1273 rfl rfl dX12_gossips_95 ?_
                refine lv_iload (pc := 98) hx hb dX12_gossips_98 (lv_at hl 5 rfl) ?_
                refine lv_aload_n (pc := 100) hx hb dX12_gossips_100 rfl (lv_at hl 1 rfl) ?_
                refine r_get X hW 0 ciX12 12 rfl (by decide) m_1243 rfl rfl dX12_gossips_101 ?_
                refine lv_iload (pc := 104) hx hb dX12_gossips_104 (lv_at hl 0 rfl) ?_
                refine r_iald X hW 3 rfl (vp_in_nI (by omega) (by decide)) dX12_gossips_106 ?_
                refine lv_topi (fun uv11 euv11 => ?_)
                obtain rfl : uv11 = nI ea := euv11.trans (by rw [nI_clamp (by omega)]; exact eA)
                refine lv_iadd (pc := 107) hx hb dX12_gossips_107 ?_
                refine lv_topi (fun uv12 euv12 => ?_)
                obtain rfl : uv12 = nI (7 * dn + ea) := euv12.trans (nI_add _ _)
                refine r_iald X hW 6 rfl (vp_in_nI (by omega) (by decide)) dX12_gossips_108 ?_
                refine lv_topi (fun uv13 euv13 => ?_)
                obtain rfl : uv13 = G (7 * dn + ea) := euv13.trans (by rw [nI_clamp (by omega)]; exact hG2 _ (by omega))
                refine lv_aload_n (pc := 109) hx hb dX12_gossips_109 rfl (lv_at hl 1 rfl) ?_
                refine r_get X hW 0 ciX12 46 rfl (by decide) m_1273 rfl rfl dX12_gossips_110 ?_
                refine lv_iload (pc := 113) hx hb dX12_gossips_113 (lv_at hl 5 rfl) ?_
                refine lv_aload_n (pc := 115) hx hb dX12_gossips_115 rfl (lv_at hl 1 rfl) ?_
                refine r_get X hW 0 ciX12 13 rfl (by decide) m_1244 rfl rfl dX12_gossips_116 ?_
                refine lv_iload (pc := 119) hx hb dX12_gossips_119 (lv_at hl 0 rfl) ?_
                refine r_iald X hW 4 rfl (vp_in_nI (by omega) (by decide)) dX12_gossips_121 ?_
                refine lv_topi (fun uv14 euv14 => ?_)
                obtain rfl : uv14 = nI eb := euv14.trans (by rw [nI_clamp (by omega)]; exact eB)
                refine lv_iadd (pc := 122) hx hb dX12_gossips_122 ?_
                refine lv_topi (fun uv15 euv15 => ?_)
                obtain rfl : uv15 = nI (7 * dn + eb) := euv15.trans (nI_add _ _)
                refine r_iald X hW 6 rfl (vp_in_nI (by omega) (by decide)) dX12_gossips_123 ?_
                refine lv_topi (fun uv16 euv16 => ?_)
                obtain rfl : uv16 = G (7 * dn + eb) := euv16.trans (by rw [nI_clamp (by omega)]; exact hG2 _ (by omega))
                refine lv_ior (pc := 124) hx hb dX12_gossips_124 ?_
                refine lv_topi (fun uv17 euv17 => ?_)
                obtain rfl : uv17 = G (7 * dn + ea) ||| G (7 * dn + eb) := euv17.trans (rfl)
                refine lv_istore (lv' := [(8, .int (G (7 * dn + ea) ||| G (7 * dn + eb))), (7, .int (nI (12 * v + i))), (0, .ref h0), (1, .int (nI v)), (2, .int (nI dn)), (3, .int 3), (4, .int (nI (7 * dn))), (5, .int 0), (6, .int (nI i))]) (pc := 125) hx hb dX12_gossips_125 hl (by decide) rfl (fun ls hl => ?_)
                refine lv_aload_n (pc := 127) hx hb dX12_gossips_127 rfl (lv_at hl 2 rfl) ?_
                refine r_get X hW 0 ciX12 48 rfl (by decide) m_1275 rfl rfl dX12_gossips_128 ?_
                refine lv_iload (pc := 131) hx hb dX12_gossips_131 (lv_at hl 8 rfl) ?_
                refine r_zald X hW 5 rfl (vp_in_nI (by omega) (by decide)) dX12_gossips_133 ?_
                refine lv_topi (fun uv18 euv18 => ?_)
                obtain rfl : uv18 = lw i := euv18.trans (by rw [nI_clamp (by omega)])
                refine lv_if_eq (tgt := 276) (pc := 134) hx hb dX12_gossips_134 rfl (fun c19 => ?_) (fun c19 => ?_)
                · refine lv_iinc (v := nI (i + 1)) (lv' := [(6, .int (nI (i + 1))), (8, .int (G (7 * dn + ea) ||| G (7 * dn + eb))), (7, .int (nI (12 * v + i))), (0, .ref h0), (1, .int (nI v)), (2, .int (nI dn)), (3, .int 3), (4, .int (nI (7 * dn))), (5, .int 0)]) (pc := 276) hx hb dX12_gossips_276 hl (k := 8) rfl ((nI_succ i).symm) (by decide) rfl (fun ls hl => ?_)
                  refine lv_goto (tgt := 74) (pc := 279) hx hb dX12_gossips_279 rfl ?_
                  have hW : WD g A s _ _ [(h0, .inr (12, [.int i0, .ref b1, .int i2, .int i3, .int i4, .int i5, .ref b6, .ref b7, .ref b8, .ref b9, .ref b10, .ref b11, .ref b12, .ref b13, .ref b14, .ref b15, .ref b16, .ref b17, .int i18, .int i19, .int i20, .ref b21, .ref b22, .ref b23, .ref b24, .ref b25, .ref b26, .int i27, .ref b28, .ref b29, .ref b30, .ref b31, .ref b32, .ref b33, .ref b34, .ref b35, .ref b36, .int i37, .int i38, .int i39, .int i40, .int i41, .int i42, .int i43, .int i44, .int i45, .ref b46, .ref b47, .ref b48, .ref b49, .ref b50, .ref b51, .ref b52, .ref b53, .ref b54, .ref b55, .ref b56, .ref b57, .ref b58, .ref b59, .ref b60, .ref b61, .ref b62, .ref b63])), (b6, .inl (g.2.1 1, 11, .inl P)), (b7, .inl (g.2.1 1, 11, .inl Lc)), (b12, .inl (g.2.1 1, 132, .inl La)), (b13, .inl (g.2.1 1, 132, .inl Lb)), (b48, .inl (g.2.1 3, 12, .inl lw)), (b46, .inl (g.2.1 1, 112, .inl G2)), (b47, .inl (g.2.1 1, 16, .inl gr))] := hW.pick [0, 1, 2, 3, 4, 5, 6, 7] rfl rfl
                  exact ih2 (i + 1) G2 gr (by omega) (by omega) (hG2) hgr (gno_s hno (by omega) hea heb eA eB (fun ha9 hb9 hw9 hu9 => absurd c19 hw9)) _ _ _ hW (lv_sub hl [3, 4, 5, 6, 7, 8, 0] rfl)
                · have hw_i := c19
                  refine lv_aload_n (pc := 137) hx hb dX12_gossips_137 rfl (lv_at hl 2 rfl) ?_
                  refine r_get X hW 0 ciX12 46 rfl (by decide) m_1273 rfl rfl dX12_gossips_138 ?_
                  refine lv_iload (pc := 141) hx hb dX12_gossips_141 (lv_at hl 6 rfl) ?_
                  refine lv_aload_n (pc := 143) hx hb dX12_gossips_143 rfl (lv_at hl 2 rfl) ?_
                  refine r_get X hW 0 ciX12 12 rfl (by decide) m_1243 rfl rfl dX12_gossips_144 ?_
                  refine lv_iload (pc := 147) hx hb dX12_gossips_147 (lv_at hl 1 rfl) ?_
                  refine r_iald X hW 3 rfl (vp_in_nI (by omega) (by decide)) dX12_gossips_149 ?_
                  refine lv_topi (fun uv20 euv20 => ?_)
                  obtain rfl : uv20 = nI ea := euv20.trans (by rw [nI_clamp (by omega)]; exact eA)
                  refine lv_iadd (pc := 150) hx hb dX12_gossips_150 ?_
                  refine lv_topi (fun uv21 euv21 => ?_)
                  obtain rfl : uv21 = nI (7 * dn + ea) := euv21.trans (nI_add _ _)
                  refine r_iald X hW 6 rfl (vp_in_nI (by omega) (by decide)) dX12_gossips_151 ?_
                  refine lv_topi (fun uv22 euv22 => ?_)
                  obtain rfl : uv22 = G (7 * dn + ea) := euv22.trans (by rw [nI_clamp (by omega)]; exact hG2 _ (by omega))
                  refine lv_iload (pc := 152) hx hb dX12_gossips_152 (lv_at hl 0 rfl) ?_
                  refine lv_icmp_ne (tgt := 180) (pc := 154) hx hb dX12_gossips_154 rfl (fun c23 => ?_) (fun c23 => ?_)
                  · refine lv_iconst (v := 0) (pc := 180) hx hb dX12_gossips_180 (by decide) ?_
                    refine lv_istore (lv' := [(9, .int 0), (8, .int (G (7 * dn + ea) ||| G (7 * dn + eb))), (7, .int (nI (12 * v + i))), (0, .ref h0), (1, .int (nI v)), (2, .int (nI dn)), (3, .int 3), (4, .int (nI (7 * dn))), (5, .int 0), (6, .int (nI i))]) (pc := 181) hx hb dX12_gossips_181 hl (by decide) rfl (fun ls hl => ?_)
                    have loop3 : ∀ (fx : Nat) (y : Nat) (G3 : Nat → Int32), (pp < fx + y) → (y ≤ pp) → (∀ x : Nat, x < 7 * (dn + 1) → G3 x = G x) → (∀ z : Nat, z < y → G3 (7 * dn + 7 + z) = gaft (rwt G dn) ea eb z) → ∀ (H : Heap) (locs : List Loc) (ls : Array Slot), WD g A s H locs [(h0, .inr (12, [.int i0, .ref b1, .int i2, .int i3, .int i4, .int i5, .ref b6, .ref b7, .ref b8, .ref b9, .ref b10, .ref b11, .ref b12, .ref b13, .ref b14, .ref b15, .ref b16, .ref b17, .int i18, .int i19, .int i20, .ref b21, .ref b22, .ref b23, .ref b24, .ref b25, .ref b26, .int i27, .ref b28, .ref b29, .ref b30, .ref b31, .ref b32, .ref b33, .ref b34, .ref b35, .ref b36, .int i37, .int i38, .int i39, .int i40, .int i41, .int i42, .int i43, .int i44, .int i45, .ref b46, .ref b47, .ref b48, .ref b49, .ref b50, .ref b51, .ref b52, .ref b53, .ref b54, .ref b55, .ref b56, .ref b57, .ref b58, .ref b59, .ref b60, .ref b61, .ref b62, .ref b63])), (b6, .inl (g.2.1 1, 11, .inl P)), (b7, .inl (g.2.1 1, 11, .inl Lc)), (b12, .inl (g.2.1 1, 132, .inl La)), (b13, .inl (g.2.1 1, 132, .inl Lb)), (b48, .inl (g.2.1 3, 12, .inl lw)), (b46, .inl (g.2.1 1, 112, .inl G3)), (b47, .inl (g.2.1 1, 16, .inl gr))] → lv_has ls 10 [(0, .ref h0), (1, .int (nI v)), (2, .int (nI dn)), (3, .int 3), (4, .int (nI (7 * dn))), (5, .int 0), (6, .int (nI i)), (7, .int (nI (12 * v + i))), (8, .int (G (7 * dn + ea) ||| G (7 * dn + eb))), (9, .int (nI y))] → W p l e (RM 4 0 0) s m args below meth c H locs 0 0 Q (F0 m 183 ls []) := by
                      intro fx
                      induction fx with
                      | zero =>
                        intro y G3 hm3 hy hG3 hC
                        exact absurd hm3 (by omega)
                      | succ fx ih3 =>
                        intro y G3 hm3 hy hG3 hC H locs ls hW hl
                        refine lv_iload (pc := 183) hx hb dX12_gossips_183 (lv_at hl 9 rfl) ?_
                        refine lv_aload_n (pc := 185) hx hb dX12_gossips_185 rfl (lv_at hl 0 rfl) ?_
                        refine r_get X hW 0 ciX12 6 rfl (by decide) m_1237 rfl rfl dX12_gossips_186 ?_
                        refine lv_iload_n (pc := 189) hx hb dX12_gossips_189 rfl (lv_at hl 1 rfl) ?_
                        refine r_iald X hW 1 rfl (vp_in_nI (by omega) (by decide)) dX12_gossips_190 ?_
                        refine lv_topi (fun uv24 euv24 => ?_)
                        obtain rfl : uv24 = nI pp := euv24.trans (by rw [nI_clamp (by omega)]; exact hP)
                        refine lv_icmp_ge (tgt := 252) (pc := 191) hx hb dX12_gossips_191 rfl (fun c25 => ?_) (fun c25 => ?_)
                        · have hyk : y = pp := Nat.le_antisymm hy (ge_t (by omega) (by omega) c25)
                          rw [hyk] at hC
                          refine lv_aload_n (pc := 252) hx hb dX12_gossips_252 rfl (lv_at hl 0 rfl) ?_
                          refine r_get X hW 0 ciX12 47 rfl (by decide) m_1274 rfl rfl dX12_gossips_253 ?_
                          refine lv_iload_n (pc := 256) hx hb dX12_gossips_256 rfl (lv_at hl 2 rfl) ?_
                          refine lv_iload (pc := 257) hx hb dX12_gossips_257 (lv_at hl 6 rfl) ?_
                          obtain ⟨f26, ef26⟩ : ∃ fz : Nat → Int32, upd gr (nI dn).toNatClampNeg (nI i) = fz := ⟨_, rfl⟩
                          refine r_iast (ws' := [(h0, .inr (12, [.int i0, .ref b1, .int i2, .int i3, .int i4, .int i5, .ref b6, .ref b7, .ref b8, .ref b9, .ref b10, .ref b11, .ref b12, .ref b13, .ref b14, .ref b15, .ref b16, .ref b17, .int i18, .int i19, .int i20, .ref b21, .ref b22, .ref b23, .ref b24, .ref b25, .ref b26, .int i27, .ref b28, .ref b29, .ref b30, .ref b31, .ref b32, .ref b33, .ref b34, .ref b35, .ref b36, .int i37, .int i38, .int i39, .int i40, .int i41, .int i42, .int i43, .int i44, .int i45, .ref b46, .ref b47, .ref b48, .ref b49, .ref b50, .ref b51, .ref b52, .ref b53, .ref b54, .ref b55, .ref b56, .ref b57, .ref b58, .ref b59, .ref b60, .ref b61, .ref b62, .ref b63])), (b6, .inl (g.2.1 1, 11, .inl P)), (b7, .inl (g.2.1 1, 11, .inl Lc)), (b12, .inl (g.2.1 1, 132, .inl La)), (b13, .inl (g.2.1 1, 132, .inl Lb)), (b48, .inl (g.2.1 3, 12, .inl lw)), (b46, .inl (g.2.1 1, 112, .inl G3)), (b47, .inl (g.2.1 1, 16, .inl f26))]) X hW 7 rfl (vp_in_nI (by omega) (by decide)) ef26 rfl dX12_gossips_259 (fun H locs hW => ?_)
                          have hg_f26 : gb16 f26 := by rw [← ef26]; exact gb16_upd hgr (by omega)
                          refine lv_aload_n (pc := 260) hx hb dX12_gossips_260 rfl (lv_at hl 0 rfl) ?_
                          refine lv_iload_n (pc := 261) hx hb dX12_gossips_261 rfl (lv_at hl 1 rfl) ?_
                          refine lv_iload_n (pc := 262) hx hb dX12_gossips_262 rfl (lv_at hl 2 rfl) ?_
                          refine lv_iconst (v := 1) (pc := 263) hx hb dX12_gossips_263 (by decide) ?_
                          refine lv_iadd (pc := 264) hx hb dX12_gossips_264 ?_
                          refine lv_topi (fun uv27 euv27 => ?_)
                          obtain rfl : uv27 = nI (dn + 1) := euv27.trans (nI_1 _)
                          refine lv_iload_n (pc := 265) hx hb dX12_gossips_265 rfl (lv_at hl 3 rfl) ?_
                          refine lv_iconst (v := 1) (pc := 266) hx hb dX12_gossips_266 (by decide) ?_
                          refine lv_isub (pc := 267) hx hb dX12_gossips_267 ?_
                          refine lv_topi (fun uv28 euv28 => ?_)
                          obtain rfl : uv28 = 2 := euv28.trans (by decide +kernel)
                          refine c_Vi (pc := 268) (As := [.int (nI v), .int (nI (dn + 1)), .int 2]) (rest := []) (wr := []) X hW 0 ciX12 rfl (C_X12_gossips_2 l g h0 b1 b6 b7 b8 b9 b10 b11 b12 b13 b14 b15 b16 b17 b21 b22 b23 b24 b25 b26 b28 b29 b30 b31 b32 b33 b34 b35 b36 b46 b47 b48 b49 b50 b51 b52 b53 b54 b55 b56 b57 b58 b59 b60 b61 b62 b63 i0 i2 i3 i4 i5 i18 i19 i20 i27 i37 i38 i39 i40 i41 i42 i43 i44 i45 P Lc La Lb lw G3 f26 v lc pp (dn + 1) hv hlc hpp hP hLc hLA hLB hg_f26 (by omega)) vX12_346 [0, 1, 2, 3, 4, 5, 6, 7] [] rfl rfl rfl rfl rfl rfl hl.1 rfl (Nat.le_of_ble_eq_true rfl) ⟨Nat.le_of_ble_eq_true rfl, Nat.le_of_ble_eq_true rfl⟩ ⟨Nat.le_of_ble_eq_true rfl, Nat.le_of_ble_eq_true rfl⟩ dX12_gossips_268 (fun r31 u9 H locs hq hW => ?_)
                          obtain ⟨gq29, gw30, -, hq1_gq29, hq2_gq29, hgw30, rfl⟩ := hq
                          have hW : WD g A s _ _ [(h0, .inr (12, [.int i0, .ref b1, .int i2, .int i3, .int i4, .int i5, .ref b6, .ref b7, .ref b8, .ref b9, .ref b10, .ref b11, .ref b12, .ref b13, .ref b14, .ref b15, .ref b16, .ref b17, .int i18, .int i19, .int i20, .ref b21, .ref b22, .ref b23, .ref b24, .ref b25, .ref b26, .int i27, .ref b28, .ref b29, .ref b30, .ref b31, .ref b32, .ref b33, .ref b34, .ref b35, .ref b36, .int i37, .int i38, .int i39, .int i40, .int i41, .int i42, .int i43, .int i44, .int i45, .ref b46, .ref b47, .ref b48, .ref b49, .ref b50, .ref b51, .ref b52, .ref b53, .ref b54, .ref b55, .ref b56, .ref b57, .ref b58, .ref b59, .ref b60, .ref b61, .ref b62, .ref b63])), (b6, .inl (g.2.1 1, 11, .inl P)), (b7, .inl (g.2.1 1, 11, .inl Lc)), (b12, .inl (g.2.1 1, 132, .inl La)), (b13, .inl (g.2.1 1, 132, .inl Lb)), (b48, .inl (g.2.1 3, 12, .inl lw)), (b46, .inl (g.2.1 1, 112, .inl gq29)), (b47, .inl (g.2.1 1, 16, .inl gw30))] := hW
                          refine lv_if_eq (tgt := 276) (pc := 271) hx hb dX12_gossips_271 rfl (fun c32 => ?_) (fun c32 => ?_)
                          · refine lv_iinc (v := nI (i + 1)) (lv' := [(6, .int (nI (i + 1))), (0, .ref h0), (1, .int (nI v)), (2, .int (nI dn)), (3, .int 3), (4, .int (nI (7 * dn))), (5, .int 0), (7, .int (nI (12 * v + i))), (8, .int (G (7 * dn + ea) ||| G (7 * dn + eb))), (9, .int (nI y))]) (pc := 276) hx hb dX12_gossips_276 hl (k := 6) rfl ((nI_succ i).symm) (by decide) rfl (fun ls hl => ?_)
                            refine lv_goto (tgt := 74) (pc := 279) hx hb dX12_gossips_279 rfl ?_
                            have hW : WD g A s _ _ [(h0, .inr (12, [.int i0, .ref b1, .int i2, .int i3, .int i4, .int i5, .ref b6, .ref b7, .ref b8, .ref b9, .ref b10, .ref b11, .ref b12, .ref b13, .ref b14, .ref b15, .ref b16, .ref b17, .int i18, .int i19, .int i20, .ref b21, .ref b22, .ref b23, .ref b24, .ref b25, .ref b26, .int i27, .ref b28, .ref b29, .ref b30, .ref b31, .ref b32, .ref b33, .ref b34, .ref b35, .ref b36, .int i37, .int i38, .int i39, .int i40, .int i41, .int i42, .int i43, .int i44, .int i45, .ref b46, .ref b47, .ref b48, .ref b49, .ref b50, .ref b51, .ref b52, .ref b53, .ref b54, .ref b55, .ref b56, .ref b57, .ref b58, .ref b59, .ref b60, .ref b61, .ref b62, .ref b63])), (b6, .inl (g.2.1 1, 11, .inl P)), (b7, .inl (g.2.1 1, 11, .inl Lc)), (b12, .inl (g.2.1 1, 132, .inl La)), (b13, .inl (g.2.1 1, 132, .inl Lb)), (b48, .inl (g.2.1 3, 12, .inl lw)), (b46, .inl (g.2.1 1, 112, .inl gq29)), (b47, .inl (g.2.1 1, 16, .inl gw30))] := hW.pick [0, 1, 2, 3, 4, 5, 6, 7] rfl rfl
                            exact ih2 (i + 1) gq29 gw30 (by omega) (by omega) (fun x hx => (hq2_gq29 x (by omega)).trans (hG3 x hx)) hgw30 (gno_s hno (by omega) hea heb eA eB (fun ha9 hb9 hw9 hu9 => fun hg9 => absurd (hq1_gq29 (gok_cong hg9 (fun o ho => (hC o ho).symm))) (by rw [c32]; decide))) _ _ _ hW (lv_sub hl [1, 2, 3, 4, 5, 6, 0] rfl)
                          · refine lv_iconst (v := 1) (pc := 274) hx hb dX12_gossips_274 (by decide) ?_
                            exact e_z X hQ hr hW (u := [(h0, .inr (12, [.int i0, .ref b1, .int i2, .int i3, .int i4, .int i5, .ref b6, .ref b7, .ref b8, .ref b9, .ref b10, .ref b11, .ref b12, .ref b13, .ref b14, .ref b15, .ref b16, .ref b17, .int i18, .int i19, .int i20, .ref b21, .ref b22, .ref b23, .ref b24, .ref b25, .ref b26, .int i27, .ref b28, .ref b29, .ref b30, .ref b31, .ref b32, .ref b33, .ref b34, .ref b35, .ref b36, .int i37, .int i38, .int i39, .int i40, .int i41, .int i42, .int i43, .int i44, .int i45, .ref b46, .ref b47, .ref b48, .ref b49, .ref b50, .ref b51, .ref b52, .ref b53, .ref b54, .ref b55, .ref b56, .ref b57, .ref b58, .ref b59, .ref b60, .ref b61, .ref b62, .ref b63])), (b6, .inl (g.2.1 1, 11, .inl P)), (b7, .inl (g.2.1 1, 11, .inl Lc)), (b12, .inl (g.2.1 1, 132, .inl La)), (b13, .inl (g.2.1 1, 132, .inl Lb)), (b48, .inl (g.2.1 3, 12, .inl lw)), (b46, .inl (g.2.1 1, 112, .inl gq29)), (b47, .inl (g.2.1 1, 16, .inl gw30))]) rfl [0, 1, 2, 3, 4, 5, 6, 7] rfl rfl (⟨_, _, Or.inr rfl, fun _ => rfl, fun x hx => (hq2_gq29 x (by omega)).trans (hG3 x hx), hgw30, rfl⟩) ⟨Nat.le_of_ble_eq_true rfl, Nat.le_of_ble_eq_true rfl⟩ dX12_gossips_275
                        · have hyl : y < pp := ge_f (by omega) (by omega) c25
                          refine lv_aload_n (pc := 194) hx hb dX12_gossips_194 rfl (lv_at hl 0 rfl) ?_
                          refine r_get X hW 0 ciX12 46 rfl (by decide) m_1273 rfl rfl dX12_gossips_195 ?_
                          refine lv_iload (pc := 198) hx hb dX12_gossips_198 (lv_at hl 4 rfl) ?_
                          refine lv_bipush (v := 7) (pc := 200) hx hb dX12_gossips_200 (by decide) ?_
                          refine lv_iadd (pc := 202) hx hb dX12_gossips_202 ?_
                          refine lv_topi (fun uv33 euv33 => ?_)
                          obtain rfl : uv33 = nI (7 * dn + 7) := euv33.trans (nI_add _ _)
                          refine lv_iload (pc := 203) hx hb dX12_gossips_203 (lv_at hl 9 rfl) ?_
                          refine lv_iadd (pc := 205) hx hb dX12_gossips_205 ?_
                          refine lv_topi (fun uv34 euv34 => ?_)
                          obtain rfl : uv34 = nI (7 * dn + 7 + y) := euv34.trans (nI_add _ _)
                          refine lv_iload (pc := 206) hx hb dX12_gossips_206 (lv_at hl 9 rfl) ?_
                          refine lv_aload_n (pc := 208) hx hb dX12_gossips_208 rfl (lv_at hl 0 rfl) ?_
                          refine r_get X hW 0 ciX12 12 rfl (by decide) m_1243 rfl rfl dX12_gossips_209 ?_
                          refine lv_iload (pc := 212) hx hb dX12_gossips_212 (lv_at hl 7 rfl) ?_
                          refine r_iald X hW 3 rfl (vp_in_nI (by omega) (by decide)) dX12_gossips_214 ?_
                          refine lv_topi (fun uv35 euv35 => ?_)
                          obtain rfl : uv35 = nI ea := euv35.trans (by rw [nI_clamp (by omega)]; exact eA)
                          refine lv_icmp_eq (tgt := 230) (pc := 215) hx hb dX12_gossips_215 rfl (fun c36 => ?_) (fun c36 => ?_)
                          · refine lv_iload (pc := 230) hx hb dX12_gossips_230 (lv_at hl 8 rfl) ?_
                            refine lv_goto (tgt := 245) (pc := 232) hx hb dX12_gossips_232 rfl ?_
                            obtain ⟨f37, ef37⟩ : ∃ fz : Nat → Int32, upd G3 (nI (7 * dn + 7 + y)).toNatClampNeg (G (7 * dn + ea) ||| G (7 * dn + eb)) = fz := ⟨_, rfl⟩
                            refine r_iast (ws' := [(h0, .inr (12, [.int i0, .ref b1, .int i2, .int i3, .int i4, .int i5, .ref b6, .ref b7, .ref b8, .ref b9, .ref b10, .ref b11, .ref b12, .ref b13, .ref b14, .ref b15, .ref b16, .ref b17, .int i18, .int i19, .int i20, .ref b21, .ref b22, .ref b23, .ref b24, .ref b25, .ref b26, .int i27, .ref b28, .ref b29, .ref b30, .ref b31, .ref b32, .ref b33, .ref b34, .ref b35, .ref b36, .int i37, .int i38, .int i39, .int i40, .int i41, .int i42, .int i43, .int i44, .int i45, .ref b46, .ref b47, .ref b48, .ref b49, .ref b50, .ref b51, .ref b52, .ref b53, .ref b54, .ref b55, .ref b56, .ref b57, .ref b58, .ref b59, .ref b60, .ref b61, .ref b62, .ref b63])), (b6, .inl (g.2.1 1, 11, .inl P)), (b7, .inl (g.2.1 1, 11, .inl Lc)), (b12, .inl (g.2.1 1, 132, .inl La)), (b13, .inl (g.2.1 1, 132, .inl Lb)), (b48, .inl (g.2.1 3, 12, .inl lw)), (b46, .inl (g.2.1 1, 112, .inl f37)), (b47, .inl (g.2.1 1, 16, .inl gr))]) X hW 6 rfl (vp_in_nI (by omega) (by decide)) ef37 rfl dX12_gossips_245 (fun H locs hW => ?_)
                            refine lv_iinc (v := nI (y + 1)) (lv' := [(9, .int (nI (y + 1))), (0, .ref h0), (1, .int (nI v)), (2, .int (nI dn)), (3, .int 3), (4, .int (nI (7 * dn))), (5, .int 0), (6, .int (nI i)), (7, .int (nI (12 * v + i))), (8, .int (G (7 * dn + ea) ||| G (7 * dn + eb)))]) (pc := 246) hx hb dX12_gossips_246 hl (k := 9) rfl ((nI_succ y).symm) (by decide) rfl (fun ls hl => ?_)
                            refine lv_goto (tgt := 183) (pc := 249) hx hb dX12_gossips_249 rfl ?_
                            have hW : WD g A s _ _ [(h0, .inr (12, [.int i0, .ref b1, .int i2, .int i3, .int i4, .int i5, .ref b6, .ref b7, .ref b8, .ref b9, .ref b10, .ref b11, .ref b12, .ref b13, .ref b14, .ref b15, .ref b16, .ref b17, .int i18, .int i19, .int i20, .ref b21, .ref b22, .ref b23, .ref b24, .ref b25, .ref b26, .int i27, .ref b28, .ref b29, .ref b30, .ref b31, .ref b32, .ref b33, .ref b34, .ref b35, .ref b36, .int i37, .int i38, .int i39, .int i40, .int i41, .int i42, .int i43, .int i44, .int i45, .ref b46, .ref b47, .ref b48, .ref b49, .ref b50, .ref b51, .ref b52, .ref b53, .ref b54, .ref b55, .ref b56, .ref b57, .ref b58, .ref b59, .ref b60, .ref b61, .ref b62, .ref b63])), (b6, .inl (g.2.1 1, 11, .inl P)), (b7, .inl (g.2.1 1, 11, .inl Lc)), (b12, .inl (g.2.1 1, 132, .inl La)), (b13, .inl (g.2.1 1, 132, .inl Lb)), (b48, .inl (g.2.1 3, 12, .inl lw)), (b46, .inl (g.2.1 1, 112, .inl f37)), (b47, .inl (g.2.1 1, 16, .inl gr))] := hW.pick [0, 1, 2, 3, 4, 5, 6, 7] rfl rfl
                            exact ih3 (y + 1) f37 (by omega) (by omega) (fun x hx => by
                                rw [← ef37, nI_clamp (by omega)]
                                simp only [upd, show ¬ x = 7 * dn + 7 + y by omega, if_false]
                                exact hG3 x hx) (fun z hz => by
                                rw [← ef37, nI_clamp (by omega)]
                                by_cases e9 : z = y
                                · subst e9; simp only [upd, if_true]; rw [gaft, if_pos (Or.inl (nI_inj6 (by omega) (by omega) c36))]; rfl
                                · simp only [upd, show ¬ 7 * dn + 7 + z = 7 * dn + 7 + y by omega, if_false]; exact hC z (by omega)) _ _ _ hW (lv_sub hl [1, 2, 3, 4, 5, 6, 7, 8, 9, 0] rfl)
                          · refine lv_iload (pc := 218) hx hb dX12_gossips_218 (lv_at hl 9 rfl) ?_
                            refine lv_aload_n (pc := 220) hx hb dX12_gossips_220 rfl (lv_at hl 0 rfl) ?_
                            refine r_get X hW 0 ciX12 13 rfl (by decide) m_1244 rfl rfl dX12_gossips_221 ?_
                            refine lv_iload (pc := 224) hx hb dX12_gossips_224 (lv_at hl 7 rfl) ?_
                            refine r_iald X hW 4 rfl (vp_in_nI (by omega) (by decide)) dX12_gossips_226 ?_
                            refine lv_topi (fun uv38 euv38 => ?_)
                            obtain rfl : uv38 = nI eb := euv38.trans (by rw [nI_clamp (by omega)]; exact eB)
                            refine lv_icmp_ne (tgt := 235) (pc := 227) hx hb dX12_gossips_227 rfl (fun c39 => ?_) (fun c39 => ?_)
                            · refine lv_aload_n (pc := 235) hx hb dX12_gossips_235 rfl (lv_at hl 0 rfl) ?_
                              refine r_get X hW 0 ciX12 46 rfl (by decide) m_1273 rfl rfl dX12_gossips_236 ?_
                              refine lv_iload (pc := 239) hx hb dX12_gossips_239 (lv_at hl 4 rfl) ?_
                              refine lv_iload (pc := 241) hx hb dX12_gossips_241 (lv_at hl 9 rfl) ?_
                              refine lv_iadd (pc := 243) hx hb dX12_gossips_243 ?_
                              refine lv_topi (fun uv40 euv40 => ?_)
                              obtain rfl : uv40 = nI (7 * dn + y) := euv40.trans (nI_add _ _)
                              refine r_iald X hW 6 rfl (vp_in_nI (by omega) (by decide)) dX12_gossips_244 ?_
                              refine lv_topi (fun uv41 euv41 => ?_)
                              obtain rfl : uv41 = G (7 * dn + y) := euv41.trans (by rw [nI_clamp (by omega)]; exact hG3 _ (by omega))
                              obtain ⟨f42, ef42⟩ : ∃ fz : Nat → Int32, upd G3 (nI (7 * dn + 7 + y)).toNatClampNeg (G (7 * dn + y)) = fz := ⟨_, rfl⟩
                              refine r_iast (ws' := [(h0, .inr (12, [.int i0, .ref b1, .int i2, .int i3, .int i4, .int i5, .ref b6, .ref b7, .ref b8, .ref b9, .ref b10, .ref b11, .ref b12, .ref b13, .ref b14, .ref b15, .ref b16, .ref b17, .int i18, .int i19, .int i20, .ref b21, .ref b22, .ref b23, .ref b24, .ref b25, .ref b26, .int i27, .ref b28, .ref b29, .ref b30, .ref b31, .ref b32, .ref b33, .ref b34, .ref b35, .ref b36, .int i37, .int i38, .int i39, .int i40, .int i41, .int i42, .int i43, .int i44, .int i45, .ref b46, .ref b47, .ref b48, .ref b49, .ref b50, .ref b51, .ref b52, .ref b53, .ref b54, .ref b55, .ref b56, .ref b57, .ref b58, .ref b59, .ref b60, .ref b61, .ref b62, .ref b63])), (b6, .inl (g.2.1 1, 11, .inl P)), (b7, .inl (g.2.1 1, 11, .inl Lc)), (b12, .inl (g.2.1 1, 132, .inl La)), (b13, .inl (g.2.1 1, 132, .inl Lb)), (b48, .inl (g.2.1 3, 12, .inl lw)), (b46, .inl (g.2.1 1, 112, .inl f42)), (b47, .inl (g.2.1 1, 16, .inl gr))]) X hW 6 rfl (vp_in_nI (by omega) (by decide)) ef42 rfl dX12_gossips_245 (fun H locs hW => ?_)
                              refine lv_iinc (v := nI (y + 1)) (lv' := [(9, .int (nI (y + 1))), (0, .ref h0), (1, .int (nI v)), (2, .int (nI dn)), (3, .int 3), (4, .int (nI (7 * dn))), (5, .int 0), (6, .int (nI i)), (7, .int (nI (12 * v + i))), (8, .int (G (7 * dn + ea) ||| G (7 * dn + eb)))]) (pc := 246) hx hb dX12_gossips_246 hl (k := 9) rfl ((nI_succ y).symm) (by decide) rfl (fun ls hl => ?_)
                              refine lv_goto (tgt := 183) (pc := 249) hx hb dX12_gossips_249 rfl ?_
                              have hW : WD g A s _ _ [(h0, .inr (12, [.int i0, .ref b1, .int i2, .int i3, .int i4, .int i5, .ref b6, .ref b7, .ref b8, .ref b9, .ref b10, .ref b11, .ref b12, .ref b13, .ref b14, .ref b15, .ref b16, .ref b17, .int i18, .int i19, .int i20, .ref b21, .ref b22, .ref b23, .ref b24, .ref b25, .ref b26, .int i27, .ref b28, .ref b29, .ref b30, .ref b31, .ref b32, .ref b33, .ref b34, .ref b35, .ref b36, .int i37, .int i38, .int i39, .int i40, .int i41, .int i42, .int i43, .int i44, .int i45, .ref b46, .ref b47, .ref b48, .ref b49, .ref b50, .ref b51, .ref b52, .ref b53, .ref b54, .ref b55, .ref b56, .ref b57, .ref b58, .ref b59, .ref b60, .ref b61, .ref b62, .ref b63])), (b6, .inl (g.2.1 1, 11, .inl P)), (b7, .inl (g.2.1 1, 11, .inl Lc)), (b12, .inl (g.2.1 1, 132, .inl La)), (b13, .inl (g.2.1 1, 132, .inl Lb)), (b48, .inl (g.2.1 3, 12, .inl lw)), (b46, .inl (g.2.1 1, 112, .inl f42)), (b47, .inl (g.2.1 1, 16, .inl gr))] := hW.pick [0, 1, 2, 3, 4, 5, 6, 7] rfl rfl
                              exact ih3 (y + 1) f42 (by omega) (by omega) (fun x hx => by
                                  rw [← ef42, nI_clamp (by omega)]
                                  simp only [upd, show ¬ x = 7 * dn + 7 + y by omega, if_false]
                                  exact hG3 x hx) (fun z hz => by
                                  rw [← ef42, nI_clamp (by omega)]
                                  by_cases e9 : z = y
                                  · subst e9; simp only [upd, if_true]; rw [gaft, if_neg (fun q => q.elim (fun r => c36 (congrArg nI r)) (fun r => c39 (congrArg nI r)))]; rfl
                                  · simp only [upd, show ¬ 7 * dn + 7 + z = 7 * dn + 7 + y by omega, if_false]; exact hC z (by omega)) _ _ _ hW (lv_sub hl [1, 2, 3, 4, 5, 6, 7, 8, 9, 0] rfl)
                            · refine lv_iload (pc := 230) hx hb dX12_gossips_230 (lv_at hl 8 rfl) ?_
                              refine lv_goto (tgt := 245) (pc := 232) hx hb dX12_gossips_232 rfl ?_
                              obtain ⟨f43, ef43⟩ : ∃ fz : Nat → Int32, upd G3 (nI (7 * dn + 7 + y)).toNatClampNeg (G (7 * dn + ea) ||| G (7 * dn + eb)) = fz := ⟨_, rfl⟩
                              refine r_iast (ws' := [(h0, .inr (12, [.int i0, .ref b1, .int i2, .int i3, .int i4, .int i5, .ref b6, .ref b7, .ref b8, .ref b9, .ref b10, .ref b11, .ref b12, .ref b13, .ref b14, .ref b15, .ref b16, .ref b17, .int i18, .int i19, .int i20, .ref b21, .ref b22, .ref b23, .ref b24, .ref b25, .ref b26, .int i27, .ref b28, .ref b29, .ref b30, .ref b31, .ref b32, .ref b33, .ref b34, .ref b35, .ref b36, .int i37, .int i38, .int i39, .int i40, .int i41, .int i42, .int i43, .int i44, .int i45, .ref b46, .ref b47, .ref b48, .ref b49, .ref b50, .ref b51, .ref b52, .ref b53, .ref b54, .ref b55, .ref b56, .ref b57, .ref b58, .ref b59, .ref b60, .ref b61, .ref b62, .ref b63])), (b6, .inl (g.2.1 1, 11, .inl P)), (b7, .inl (g.2.1 1, 11, .inl Lc)), (b12, .inl (g.2.1 1, 132, .inl La)), (b13, .inl (g.2.1 1, 132, .inl Lb)), (b48, .inl (g.2.1 3, 12, .inl lw)), (b46, .inl (g.2.1 1, 112, .inl f43)), (b47, .inl (g.2.1 1, 16, .inl gr))]) X hW 6 rfl (vp_in_nI (by omega) (by decide)) ef43 rfl dX12_gossips_245 (fun H locs hW => ?_)
                              refine lv_iinc (v := nI (y + 1)) (lv' := [(9, .int (nI (y + 1))), (0, .ref h0), (1, .int (nI v)), (2, .int (nI dn)), (3, .int 3), (4, .int (nI (7 * dn))), (5, .int 0), (6, .int (nI i)), (7, .int (nI (12 * v + i))), (8, .int (G (7 * dn + ea) ||| G (7 * dn + eb)))]) (pc := 246) hx hb dX12_gossips_246 hl (k := 9) rfl ((nI_succ y).symm) (by decide) rfl (fun ls hl => ?_)
                              refine lv_goto (tgt := 183) (pc := 249) hx hb dX12_gossips_249 rfl ?_
                              have hW : WD g A s _ _ [(h0, .inr (12, [.int i0, .ref b1, .int i2, .int i3, .int i4, .int i5, .ref b6, .ref b7, .ref b8, .ref b9, .ref b10, .ref b11, .ref b12, .ref b13, .ref b14, .ref b15, .ref b16, .ref b17, .int i18, .int i19, .int i20, .ref b21, .ref b22, .ref b23, .ref b24, .ref b25, .ref b26, .int i27, .ref b28, .ref b29, .ref b30, .ref b31, .ref b32, .ref b33, .ref b34, .ref b35, .ref b36, .int i37, .int i38, .int i39, .int i40, .int i41, .int i42, .int i43, .int i44, .int i45, .ref b46, .ref b47, .ref b48, .ref b49, .ref b50, .ref b51, .ref b52, .ref b53, .ref b54, .ref b55, .ref b56, .ref b57, .ref b58, .ref b59, .ref b60, .ref b61, .ref b62, .ref b63])), (b6, .inl (g.2.1 1, 11, .inl P)), (b7, .inl (g.2.1 1, 11, .inl Lc)), (b12, .inl (g.2.1 1, 132, .inl La)), (b13, .inl (g.2.1 1, 132, .inl Lb)), (b48, .inl (g.2.1 3, 12, .inl lw)), (b46, .inl (g.2.1 1, 112, .inl f43)), (b47, .inl (g.2.1 1, 16, .inl gr))] := hW.pick [0, 1, 2, 3, 4, 5, 6, 7] rfl rfl
                              exact ih3 (y + 1) f43 (by omega) (by omega) (fun x hx => by
                                  rw [← ef43, nI_clamp (by omega)]
                                  simp only [upd, show ¬ x = 7 * dn + 7 + y by omega, if_false]
                                  exact hG3 x hx) (fun z hz => by
                                  rw [← ef43, nI_clamp (by omega)]
                                  by_cases e9 : z = y
                                  · subst e9; simp only [upd, if_true]; rw [gaft, if_pos (Or.inr (nI_inj6 (by omega) (by omega) c39))]; rfl
                                  · simp only [upd, show ¬ 7 * dn + 7 + z = 7 * dn + 7 + y by omega, if_false]; exact hC z (by omega)) _ _ _ hW (lv_sub hl [1, 2, 3, 4, 5, 6, 7, 8, 9, 0] rfl)
                    exact loop3 (pp + 1) 0 G2 (by omega) (Nat.zero_le _) hG2 (fun z hz => absurd hz (Nat.not_lt_zero z)) _ _ _ hW (lv_sub hl [3, 4, 5, 6, 7, 8, 9, 2, 1, 0] rfl)
                  · have h_eA := c23
                    refine lv_aload_n (pc := 157) hx hb dX12_gossips_157 rfl (lv_at hl 2 rfl) ?_
                    refine r_get X hW 0 ciX12 46 rfl (by decide) m_1273 rfl rfl dX12_gossips_158 ?_
                    refine lv_iload (pc := 161) hx hb dX12_gossips_161 (lv_at hl 6 rfl) ?_
                    refine lv_aload_n (pc := 163) hx hb dX12_gossips_163 rfl (lv_at hl 2 rfl) ?_
                    refine r_get X hW 0 ciX12 13 rfl (by decide) m_1244 rfl rfl dX12_gossips_164 ?_
                    refine lv_iload (pc := 167) hx hb dX12_gossips_167 (lv_at hl 1 rfl) ?_
                    refine r_iald X hW 4 rfl (vp_in_nI (by omega) (by decide)) dX12_gossips_169 ?_
                    refine lv_topi (fun uv44 euv44 => ?_)
                    obtain rfl : uv44 = nI eb := euv44.trans (by rw [nI_clamp (by omega)]; exact eB)
                    refine lv_iadd (pc := 170) hx hb dX12_gossips_170 ?_
                    refine lv_topi (fun uv45 euv45 => ?_)
                    obtain rfl : uv45 = nI (7 * dn + eb) := euv45.trans (nI_add _ _)
                    refine r_iald X hW 6 rfl (vp_in_nI (by omega) (by decide)) dX12_gossips_171 ?_
                    refine lv_topi (fun uv46 euv46 => ?_)
                    obtain rfl : uv46 = G (7 * dn + eb) := euv46.trans (by rw [nI_clamp (by omega)]; exact hG2 _ (by omega))
                    refine lv_iload (pc := 172) hx hb dX12_gossips_172 (lv_at hl 0 rfl) ?_
                    refine lv_icmp_ne (tgt := 180) (pc := 174) hx hb dX12_gossips_174 rfl (fun c47 => ?_) (fun c47 => ?_)
                    · refine lv_iconst (v := 0) (pc := 180) hx hb dX12_gossips_180 (by decide) ?_
                      refine lv_istore (lv' := [(9, .int 0), (8, .int (G (7 * dn + ea) ||| G (7 * dn + eb))), (7, .int (nI (12 * v + i))), (0, .ref h0), (1, .int (nI v)), (2, .int (nI dn)), (3, .int 3), (4, .int (nI (7 * dn))), (5, .int 0), (6, .int (nI i))]) (pc := 181) hx hb dX12_gossips_181 hl (by decide) rfl (fun ls hl => ?_)
                      have loop3 : ∀ (fx : Nat) (y : Nat) (G3 : Nat → Int32), (pp < fx + y) → (y ≤ pp) → (∀ x : Nat, x < 7 * (dn + 1) → G3 x = G x) → (∀ z : Nat, z < y → G3 (7 * dn + 7 + z) = gaft (rwt G dn) ea eb z) → ∀ (H : Heap) (locs : List Loc) (ls : Array Slot), WD g A s H locs [(h0, .inr (12, [.int i0, .ref b1, .int i2, .int i3, .int i4, .int i5, .ref b6, .ref b7, .ref b8, .ref b9, .ref b10, .ref b11, .ref b12, .ref b13, .ref b14, .ref b15, .ref b16, .ref b17, .int i18, .int i19, .int i20, .ref b21, .ref b22, .ref b23, .ref b24, .ref b25, .ref b26, .int i27, .ref b28, .ref b29, .ref b30, .ref b31, .ref b32, .ref b33, .ref b34, .ref b35, .ref b36, .int i37, .int i38, .int i39, .int i40, .int i41, .int i42, .int i43, .int i44, .int i45, .ref b46, .ref b47, .ref b48, .ref b49, .ref b50, .ref b51, .ref b52, .ref b53, .ref b54, .ref b55, .ref b56, .ref b57, .ref b58, .ref b59, .ref b60, .ref b61, .ref b62, .ref b63])), (b6, .inl (g.2.1 1, 11, .inl P)), (b7, .inl (g.2.1 1, 11, .inl Lc)), (b12, .inl (g.2.1 1, 132, .inl La)), (b13, .inl (g.2.1 1, 132, .inl Lb)), (b48, .inl (g.2.1 3, 12, .inl lw)), (b46, .inl (g.2.1 1, 112, .inl G3)), (b47, .inl (g.2.1 1, 16, .inl gr))] → lv_has ls 10 [(0, .ref h0), (1, .int (nI v)), (2, .int (nI dn)), (3, .int 3), (4, .int (nI (7 * dn))), (5, .int 0), (6, .int (nI i)), (7, .int (nI (12 * v + i))), (8, .int (G (7 * dn + ea) ||| G (7 * dn + eb))), (9, .int (nI y))] → W p l e (RM 4 0 0) s m args below meth c H locs 0 0 Q (F0 m 183 ls []) := by
                        intro fx
                        induction fx with
                        | zero =>
                          intro y G3 hm3 hy hG3 hC
                          exact absurd hm3 (by omega)
                        | succ fx ih3 =>
                          intro y G3 hm3 hy hG3 hC H locs ls hW hl
                          refine lv_iload (pc := 183) hx hb dX12_gossips_183 (lv_at hl 9 rfl) ?_
                          refine lv_aload_n (pc := 185) hx hb dX12_gossips_185 rfl (lv_at hl 0 rfl) ?_
                          refine r_get X hW 0 ciX12 6 rfl (by decide) m_1237 rfl rfl dX12_gossips_186 ?_
                          refine lv_iload_n (pc := 189) hx hb dX12_gossips_189 rfl (lv_at hl 1 rfl) ?_
                          refine r_iald X hW 1 rfl (vp_in_nI (by omega) (by decide)) dX12_gossips_190 ?_
                          refine lv_topi (fun uv48 euv48 => ?_)
                          obtain rfl : uv48 = nI pp := euv48.trans (by rw [nI_clamp (by omega)]; exact hP)
                          refine lv_icmp_ge (tgt := 252) (pc := 191) hx hb dX12_gossips_191 rfl (fun c49 => ?_) (fun c49 => ?_)
                          · have hyk : y = pp := Nat.le_antisymm hy (ge_t (by omega) (by omega) c49)
                            rw [hyk] at hC
                            refine lv_aload_n (pc := 252) hx hb dX12_gossips_252 rfl (lv_at hl 0 rfl) ?_
                            refine r_get X hW 0 ciX12 47 rfl (by decide) m_1274 rfl rfl dX12_gossips_253 ?_
                            refine lv_iload_n (pc := 256) hx hb dX12_gossips_256 rfl (lv_at hl 2 rfl) ?_
                            refine lv_iload (pc := 257) hx hb dX12_gossips_257 (lv_at hl 6 rfl) ?_
                            obtain ⟨f50, ef50⟩ : ∃ fz : Nat → Int32, upd gr (nI dn).toNatClampNeg (nI i) = fz := ⟨_, rfl⟩
                            refine r_iast (ws' := [(h0, .inr (12, [.int i0, .ref b1, .int i2, .int i3, .int i4, .int i5, .ref b6, .ref b7, .ref b8, .ref b9, .ref b10, .ref b11, .ref b12, .ref b13, .ref b14, .ref b15, .ref b16, .ref b17, .int i18, .int i19, .int i20, .ref b21, .ref b22, .ref b23, .ref b24, .ref b25, .ref b26, .int i27, .ref b28, .ref b29, .ref b30, .ref b31, .ref b32, .ref b33, .ref b34, .ref b35, .ref b36, .int i37, .int i38, .int i39, .int i40, .int i41, .int i42, .int i43, .int i44, .int i45, .ref b46, .ref b47, .ref b48, .ref b49, .ref b50, .ref b51, .ref b52, .ref b53, .ref b54, .ref b55, .ref b56, .ref b57, .ref b58, .ref b59, .ref b60, .ref b61, .ref b62, .ref b63])), (b6, .inl (g.2.1 1, 11, .inl P)), (b7, .inl (g.2.1 1, 11, .inl Lc)), (b12, .inl (g.2.1 1, 132, .inl La)), (b13, .inl (g.2.1 1, 132, .inl Lb)), (b48, .inl (g.2.1 3, 12, .inl lw)), (b46, .inl (g.2.1 1, 112, .inl G3)), (b47, .inl (g.2.1 1, 16, .inl f50))]) X hW 7 rfl (vp_in_nI (by omega) (by decide)) ef50 rfl dX12_gossips_259 (fun H locs hW => ?_)
                            have hg_f50 : gb16 f50 := by rw [← ef50]; exact gb16_upd hgr (by omega)
                            refine lv_aload_n (pc := 260) hx hb dX12_gossips_260 rfl (lv_at hl 0 rfl) ?_
                            refine lv_iload_n (pc := 261) hx hb dX12_gossips_261 rfl (lv_at hl 1 rfl) ?_
                            refine lv_iload_n (pc := 262) hx hb dX12_gossips_262 rfl (lv_at hl 2 rfl) ?_
                            refine lv_iconst (v := 1) (pc := 263) hx hb dX12_gossips_263 (by decide) ?_
                            refine lv_iadd (pc := 264) hx hb dX12_gossips_264 ?_
                            refine lv_topi (fun uv51 euv51 => ?_)
                            obtain rfl : uv51 = nI (dn + 1) := euv51.trans (nI_1 _)
                            refine lv_iload_n (pc := 265) hx hb dX12_gossips_265 rfl (lv_at hl 3 rfl) ?_
                            refine lv_iconst (v := 1) (pc := 266) hx hb dX12_gossips_266 (by decide) ?_
                            refine lv_isub (pc := 267) hx hb dX12_gossips_267 ?_
                            refine lv_topi (fun uv52 euv52 => ?_)
                            obtain rfl : uv52 = 2 := euv52.trans (by decide +kernel)
                            refine c_Vi (pc := 268) (As := [.int (nI v), .int (nI (dn + 1)), .int 2]) (rest := []) (wr := []) X hW 0 ciX12 rfl (C_X12_gossips_2 l g h0 b1 b6 b7 b8 b9 b10 b11 b12 b13 b14 b15 b16 b17 b21 b22 b23 b24 b25 b26 b28 b29 b30 b31 b32 b33 b34 b35 b36 b46 b47 b48 b49 b50 b51 b52 b53 b54 b55 b56 b57 b58 b59 b60 b61 b62 b63 i0 i2 i3 i4 i5 i18 i19 i20 i27 i37 i38 i39 i40 i41 i42 i43 i44 i45 P Lc La Lb lw G3 f50 v lc pp (dn + 1) hv hlc hpp hP hLc hLA hLB hg_f50 (by omega)) vX12_346 [0, 1, 2, 3, 4, 5, 6, 7] [] rfl rfl rfl rfl rfl rfl hl.1 rfl (Nat.le_of_ble_eq_true rfl) ⟨Nat.le_of_ble_eq_true rfl, Nat.le_of_ble_eq_true rfl⟩ ⟨Nat.le_of_ble_eq_true rfl, Nat.le_of_ble_eq_true rfl⟩ dX12_gossips_268 (fun r55 u9 H locs hq hW => ?_)
                            obtain ⟨gq53, gw54, -, hq1_gq53, hq2_gq53, hgw54, rfl⟩ := hq
                            have hW : WD g A s _ _ [(h0, .inr (12, [.int i0, .ref b1, .int i2, .int i3, .int i4, .int i5, .ref b6, .ref b7, .ref b8, .ref b9, .ref b10, .ref b11, .ref b12, .ref b13, .ref b14, .ref b15, .ref b16, .ref b17, .int i18, .int i19, .int i20, .ref b21, .ref b22, .ref b23, .ref b24, .ref b25, .ref b26, .int i27, .ref b28, .ref b29, .ref b30, .ref b31, .ref b32, .ref b33, .ref b34, .ref b35, .ref b36, .int i37, .int i38, .int i39, .int i40, .int i41, .int i42, .int i43, .int i44, .int i45, .ref b46, .ref b47, .ref b48, .ref b49, .ref b50, .ref b51, .ref b52, .ref b53, .ref b54, .ref b55, .ref b56, .ref b57, .ref b58, .ref b59, .ref b60, .ref b61, .ref b62, .ref b63])), (b6, .inl (g.2.1 1, 11, .inl P)), (b7, .inl (g.2.1 1, 11, .inl Lc)), (b12, .inl (g.2.1 1, 132, .inl La)), (b13, .inl (g.2.1 1, 132, .inl Lb)), (b48, .inl (g.2.1 3, 12, .inl lw)), (b46, .inl (g.2.1 1, 112, .inl gq53)), (b47, .inl (g.2.1 1, 16, .inl gw54))] := hW
                            refine lv_if_eq (tgt := 276) (pc := 271) hx hb dX12_gossips_271 rfl (fun c56 => ?_) (fun c56 => ?_)
                            · refine lv_iinc (v := nI (i + 1)) (lv' := [(6, .int (nI (i + 1))), (0, .ref h0), (1, .int (nI v)), (2, .int (nI dn)), (3, .int 3), (4, .int (nI (7 * dn))), (5, .int 0), (7, .int (nI (12 * v + i))), (8, .int (G (7 * dn + ea) ||| G (7 * dn + eb))), (9, .int (nI y))]) (pc := 276) hx hb dX12_gossips_276 hl (k := 6) rfl ((nI_succ i).symm) (by decide) rfl (fun ls hl => ?_)
                              refine lv_goto (tgt := 74) (pc := 279) hx hb dX12_gossips_279 rfl ?_
                              have hW : WD g A s _ _ [(h0, .inr (12, [.int i0, .ref b1, .int i2, .int i3, .int i4, .int i5, .ref b6, .ref b7, .ref b8, .ref b9, .ref b10, .ref b11, .ref b12, .ref b13, .ref b14, .ref b15, .ref b16, .ref b17, .int i18, .int i19, .int i20, .ref b21, .ref b22, .ref b23, .ref b24, .ref b25, .ref b26, .int i27, .ref b28, .ref b29, .ref b30, .ref b31, .ref b32, .ref b33, .ref b34, .ref b35, .ref b36, .int i37, .int i38, .int i39, .int i40, .int i41, .int i42, .int i43, .int i44, .int i45, .ref b46, .ref b47, .ref b48, .ref b49, .ref b50, .ref b51, .ref b52, .ref b53, .ref b54, .ref b55, .ref b56, .ref b57, .ref b58, .ref b59, .ref b60, .ref b61, .ref b62, .ref b63])), (b6, .inl (g.2.1 1, 11, .inl P)), (b7, .inl (g.2.1 1, 11, .inl Lc)), (b12, .inl (g.2.1 1, 132, .inl La)), (b13, .inl (g.2.1 1, 132, .inl Lb)), (b48, .inl (g.2.1 3, 12, .inl lw)), (b46, .inl (g.2.1 1, 112, .inl gq53)), (b47, .inl (g.2.1 1, 16, .inl gw54))] := hW.pick [0, 1, 2, 3, 4, 5, 6, 7] rfl rfl
                              exact ih2 (i + 1) gq53 gw54 (by omega) (by omega) (fun x hx => (hq2_gq53 x (by omega)).trans (hG3 x hx)) hgw54 (gno_s hno (by omega) hea heb eA eB (fun ha9 hb9 hw9 hu9 => fun hg9 => absurd (hq1_gq53 (gok_cong hg9 (fun o ho => (hC o ho).symm))) (by rw [c56]; decide))) _ _ _ hW (lv_sub hl [1, 2, 3, 4, 5, 6, 0] rfl)
                            · refine lv_iconst (v := 1) (pc := 274) hx hb dX12_gossips_274 (by decide) ?_
                              exact e_z X hQ hr hW (u := [(h0, .inr (12, [.int i0, .ref b1, .int i2, .int i3, .int i4, .int i5, .ref b6, .ref b7, .ref b8, .ref b9, .ref b10, .ref b11, .ref b12, .ref b13, .ref b14, .ref b15, .ref b16, .ref b17, .int i18, .int i19, .int i20, .ref b21, .ref b22, .ref b23, .ref b24, .ref b25, .ref b26, .int i27, .ref b28, .ref b29, .ref b30, .ref b31, .ref b32, .ref b33, .ref b34, .ref b35, .ref b36, .int i37, .int i38, .int i39, .int i40, .int i41, .int i42, .int i43, .int i44, .int i45, .ref b46, .ref b47, .ref b48, .ref b49, .ref b50, .ref b51, .ref b52, .ref b53, .ref b54, .ref b55, .ref b56, .ref b57, .ref b58, .ref b59, .ref b60, .ref b61, .ref b62, .ref b63])), (b6, .inl (g.2.1 1, 11, .inl P)), (b7, .inl (g.2.1 1, 11, .inl Lc)), (b12, .inl (g.2.1 1, 132, .inl La)), (b13, .inl (g.2.1 1, 132, .inl Lb)), (b48, .inl (g.2.1 3, 12, .inl lw)), (b46, .inl (g.2.1 1, 112, .inl gq53)), (b47, .inl (g.2.1 1, 16, .inl gw54))]) rfl [0, 1, 2, 3, 4, 5, 6, 7] rfl rfl (⟨_, _, Or.inr rfl, fun _ => rfl, fun x hx => (hq2_gq53 x (by omega)).trans (hG3 x hx), hgw54, rfl⟩) ⟨Nat.le_of_ble_eq_true rfl, Nat.le_of_ble_eq_true rfl⟩ dX12_gossips_275
                          · have hyl : y < pp := ge_f (by omega) (by omega) c49
                            refine lv_aload_n (pc := 194) hx hb dX12_gossips_194 rfl (lv_at hl 0 rfl) ?_
                            refine r_get X hW 0 ciX12 46 rfl (by decide) m_1273 rfl rfl dX12_gossips_195 ?_
                            refine lv_iload (pc := 198) hx hb dX12_gossips_198 (lv_at hl 4 rfl) ?_
                            refine lv_bipush (v := 7) (pc := 200) hx hb dX12_gossips_200 (by decide) ?_
                            refine lv_iadd (pc := 202) hx hb dX12_gossips_202 ?_
                            refine lv_topi (fun uv57 euv57 => ?_)
                            obtain rfl : uv57 = nI (7 * dn + 7) := euv57.trans (nI_add _ _)
                            refine lv_iload (pc := 203) hx hb dX12_gossips_203 (lv_at hl 9 rfl) ?_
                            refine lv_iadd (pc := 205) hx hb dX12_gossips_205 ?_
                            refine lv_topi (fun uv58 euv58 => ?_)
                            obtain rfl : uv58 = nI (7 * dn + 7 + y) := euv58.trans (nI_add _ _)
                            refine lv_iload (pc := 206) hx hb dX12_gossips_206 (lv_at hl 9 rfl) ?_
                            refine lv_aload_n (pc := 208) hx hb dX12_gossips_208 rfl (lv_at hl 0 rfl) ?_
                            refine r_get X hW 0 ciX12 12 rfl (by decide) m_1243 rfl rfl dX12_gossips_209 ?_
                            refine lv_iload (pc := 212) hx hb dX12_gossips_212 (lv_at hl 7 rfl) ?_
                            refine r_iald X hW 3 rfl (vp_in_nI (by omega) (by decide)) dX12_gossips_214 ?_
                            refine lv_topi (fun uv59 euv59 => ?_)
                            obtain rfl : uv59 = nI ea := euv59.trans (by rw [nI_clamp (by omega)]; exact eA)
                            refine lv_icmp_eq (tgt := 230) (pc := 215) hx hb dX12_gossips_215 rfl (fun c60 => ?_) (fun c60 => ?_)
                            · refine lv_iload (pc := 230) hx hb dX12_gossips_230 (lv_at hl 8 rfl) ?_
                              refine lv_goto (tgt := 245) (pc := 232) hx hb dX12_gossips_232 rfl ?_
                              obtain ⟨f61, ef61⟩ : ∃ fz : Nat → Int32, upd G3 (nI (7 * dn + 7 + y)).toNatClampNeg (G (7 * dn + ea) ||| G (7 * dn + eb)) = fz := ⟨_, rfl⟩
                              refine r_iast (ws' := [(h0, .inr (12, [.int i0, .ref b1, .int i2, .int i3, .int i4, .int i5, .ref b6, .ref b7, .ref b8, .ref b9, .ref b10, .ref b11, .ref b12, .ref b13, .ref b14, .ref b15, .ref b16, .ref b17, .int i18, .int i19, .int i20, .ref b21, .ref b22, .ref b23, .ref b24, .ref b25, .ref b26, .int i27, .ref b28, .ref b29, .ref b30, .ref b31, .ref b32, .ref b33, .ref b34, .ref b35, .ref b36, .int i37, .int i38, .int i39, .int i40, .int i41, .int i42, .int i43, .int i44, .int i45, .ref b46, .ref b47, .ref b48, .ref b49, .ref b50, .ref b51, .ref b52, .ref b53, .ref b54, .ref b55, .ref b56, .ref b57, .ref b58, .ref b59, .ref b60, .ref b61, .ref b62, .ref b63])), (b6, .inl (g.2.1 1, 11, .inl P)), (b7, .inl (g.2.1 1, 11, .inl Lc)), (b12, .inl (g.2.1 1, 132, .inl La)), (b13, .inl (g.2.1 1, 132, .inl Lb)), (b48, .inl (g.2.1 3, 12, .inl lw)), (b46, .inl (g.2.1 1, 112, .inl f61)), (b47, .inl (g.2.1 1, 16, .inl gr))]) X hW 6 rfl (vp_in_nI (by omega) (by decide)) ef61 rfl dX12_gossips_245 (fun H locs hW => ?_)
                              refine lv_iinc (v := nI (y + 1)) (lv' := [(9, .int (nI (y + 1))), (0, .ref h0), (1, .int (nI v)), (2, .int (nI dn)), (3, .int 3), (4, .int (nI (7 * dn))), (5, .int 0), (6, .int (nI i)), (7, .int (nI (12 * v + i))), (8, .int (G (7 * dn + ea) ||| G (7 * dn + eb)))]) (pc := 246) hx hb dX12_gossips_246 hl (k := 9) rfl ((nI_succ y).symm) (by decide) rfl (fun ls hl => ?_)
                              refine lv_goto (tgt := 183) (pc := 249) hx hb dX12_gossips_249 rfl ?_
                              have hW : WD g A s _ _ [(h0, .inr (12, [.int i0, .ref b1, .int i2, .int i3, .int i4, .int i5, .ref b6, .ref b7, .ref b8, .ref b9, .ref b10, .ref b11, .ref b12, .ref b13, .ref b14, .ref b15, .ref b16, .ref b17, .int i18, .int i19, .int i20, .ref b21, .ref b22, .ref b23, .ref b24, .ref b25, .ref b26, .int i27, .ref b28, .ref b29, .ref b30, .ref b31, .ref b32, .ref b33, .ref b34, .ref b35, .ref b36, .int i37, .int i38, .int i39, .int i40, .int i41, .int i42, .int i43, .int i44, .int i45, .ref b46, .ref b47, .ref b48, .ref b49, .ref b50, .ref b51, .ref b52, .ref b53, .ref b54, .ref b55, .ref b56, .ref b57, .ref b58, .ref b59, .ref b60, .ref b61, .ref b62, .ref b63])), (b6, .inl (g.2.1 1, 11, .inl P)), (b7, .inl (g.2.1 1, 11, .inl Lc)), (b12, .inl (g.2.1 1, 132, .inl La)), (b13, .inl (g.2.1 1, 132, .inl Lb)), (b48, .inl (g.2.1 3, 12, .inl lw)), (b46, .inl (g.2.1 1, 112, .inl f61)), (b47, .inl (g.2.1 1, 16, .inl gr))] := hW.pick [0, 1, 2, 3, 4, 5, 6, 7] rfl rfl
                              exact ih3 (y + 1) f61 (by omega) (by omega) (fun x hx => by
                                  rw [← ef61, nI_clamp (by omega)]
                                  simp only [upd, show ¬ x = 7 * dn + 7 + y by omega, if_false]
                                  exact hG3 x hx) (fun z hz => by
                                  rw [← ef61, nI_clamp (by omega)]
                                  by_cases e9 : z = y
                                  · subst e9; simp only [upd, if_true]; rw [gaft, if_pos (Or.inl (nI_inj6 (by omega) (by omega) c60))]; rfl
                                  · simp only [upd, show ¬ 7 * dn + 7 + z = 7 * dn + 7 + y by omega, if_false]; exact hC z (by omega)) _ _ _ hW (lv_sub hl [1, 2, 3, 4, 5, 6, 7, 8, 9, 0] rfl)
                            · refine lv_iload (pc := 218) hx hb dX12_gossips_218 (lv_at hl 9 rfl) ?_
                              refine lv_aload_n (pc := 220) hx hb dX12_gossips_220 rfl (lv_at hl 0 rfl) ?_
                              refine r_get X hW 0 ciX12 13 rfl (by decide) m_1244 rfl rfl dX12_gossips_221 ?_
                              refine lv_iload (pc := 224) hx hb dX12_gossips_224 (lv_at hl 7 rfl) ?_
                              refine r_iald X hW 4 rfl (vp_in_nI (by omega) (by decide)) dX12_gossips_226 ?_
                              refine lv_topi (fun uv62 euv62 => ?_)
                              obtain rfl : uv62 = nI eb := euv62.trans (by rw [nI_clamp (by omega)]; exact eB)
                              refine lv_icmp_ne (tgt := 235) (pc := 227) hx hb dX12_gossips_227 rfl (fun c63 => ?_) (fun c63 => ?_)
                              · refine lv_aload_n (pc := 235) hx hb dX12_gossips_235 rfl (lv_at hl 0 rfl) ?_
                                refine r_get X hW 0 ciX12 46 rfl (by decide) m_1273 rfl rfl dX12_gossips_236 ?_
                                refine lv_iload (pc := 239) hx hb dX12_gossips_239 (lv_at hl 4 rfl) ?_
                                refine lv_iload (pc := 241) hx hb dX12_gossips_241 (lv_at hl 9 rfl) ?_
                                refine lv_iadd (pc := 243) hx hb dX12_gossips_243 ?_
                                refine lv_topi (fun uv64 euv64 => ?_)
                                obtain rfl : uv64 = nI (7 * dn + y) := euv64.trans (nI_add _ _)
                                refine r_iald X hW 6 rfl (vp_in_nI (by omega) (by decide)) dX12_gossips_244 ?_
                                refine lv_topi (fun uv65 euv65 => ?_)
                                obtain rfl : uv65 = G (7 * dn + y) := euv65.trans (by rw [nI_clamp (by omega)]; exact hG3 _ (by omega))
                                obtain ⟨f66, ef66⟩ : ∃ fz : Nat → Int32, upd G3 (nI (7 * dn + 7 + y)).toNatClampNeg (G (7 * dn + y)) = fz := ⟨_, rfl⟩
                                refine r_iast (ws' := [(h0, .inr (12, [.int i0, .ref b1, .int i2, .int i3, .int i4, .int i5, .ref b6, .ref b7, .ref b8, .ref b9, .ref b10, .ref b11, .ref b12, .ref b13, .ref b14, .ref b15, .ref b16, .ref b17, .int i18, .int i19, .int i20, .ref b21, .ref b22, .ref b23, .ref b24, .ref b25, .ref b26, .int i27, .ref b28, .ref b29, .ref b30, .ref b31, .ref b32, .ref b33, .ref b34, .ref b35, .ref b36, .int i37, .int i38, .int i39, .int i40, .int i41, .int i42, .int i43, .int i44, .int i45, .ref b46, .ref b47, .ref b48, .ref b49, .ref b50, .ref b51, .ref b52, .ref b53, .ref b54, .ref b55, .ref b56, .ref b57, .ref b58, .ref b59, .ref b60, .ref b61, .ref b62, .ref b63])), (b6, .inl (g.2.1 1, 11, .inl P)), (b7, .inl (g.2.1 1, 11, .inl Lc)), (b12, .inl (g.2.1 1, 132, .inl La)), (b13, .inl (g.2.1 1, 132, .inl Lb)), (b48, .inl (g.2.1 3, 12, .inl lw)), (b46, .inl (g.2.1 1, 112, .inl f66)), (b47, .inl (g.2.1 1, 16, .inl gr))]) X hW 6 rfl (vp_in_nI (by omega) (by decide)) ef66 rfl dX12_gossips_245 (fun H locs hW => ?_)
                                refine lv_iinc (v := nI (y + 1)) (lv' := [(9, .int (nI (y + 1))), (0, .ref h0), (1, .int (nI v)), (2, .int (nI dn)), (3, .int 3), (4, .int (nI (7 * dn))), (5, .int 0), (6, .int (nI i)), (7, .int (nI (12 * v + i))), (8, .int (G (7 * dn + ea) ||| G (7 * dn + eb)))]) (pc := 246) hx hb dX12_gossips_246 hl (k := 9) rfl ((nI_succ y).symm) (by decide) rfl (fun ls hl => ?_)
                                refine lv_goto (tgt := 183) (pc := 249) hx hb dX12_gossips_249 rfl ?_
                                have hW : WD g A s _ _ [(h0, .inr (12, [.int i0, .ref b1, .int i2, .int i3, .int i4, .int i5, .ref b6, .ref b7, .ref b8, .ref b9, .ref b10, .ref b11, .ref b12, .ref b13, .ref b14, .ref b15, .ref b16, .ref b17, .int i18, .int i19, .int i20, .ref b21, .ref b22, .ref b23, .ref b24, .ref b25, .ref b26, .int i27, .ref b28, .ref b29, .ref b30, .ref b31, .ref b32, .ref b33, .ref b34, .ref b35, .ref b36, .int i37, .int i38, .int i39, .int i40, .int i41, .int i42, .int i43, .int i44, .int i45, .ref b46, .ref b47, .ref b48, .ref b49, .ref b50, .ref b51, .ref b52, .ref b53, .ref b54, .ref b55, .ref b56, .ref b57, .ref b58, .ref b59, .ref b60, .ref b61, .ref b62, .ref b63])), (b6, .inl (g.2.1 1, 11, .inl P)), (b7, .inl (g.2.1 1, 11, .inl Lc)), (b12, .inl (g.2.1 1, 132, .inl La)), (b13, .inl (g.2.1 1, 132, .inl Lb)), (b48, .inl (g.2.1 3, 12, .inl lw)), (b46, .inl (g.2.1 1, 112, .inl f66)), (b47, .inl (g.2.1 1, 16, .inl gr))] := hW.pick [0, 1, 2, 3, 4, 5, 6, 7] rfl rfl
                                exact ih3 (y + 1) f66 (by omega) (by omega) (fun x hx => by
                                    rw [← ef66, nI_clamp (by omega)]
                                    simp only [upd, show ¬ x = 7 * dn + 7 + y by omega, if_false]
                                    exact hG3 x hx) (fun z hz => by
                                    rw [← ef66, nI_clamp (by omega)]
                                    by_cases e9 : z = y
                                    · subst e9; simp only [upd, if_true]; rw [gaft, if_neg (fun q => q.elim (fun r => c60 (congrArg nI r)) (fun r => c63 (congrArg nI r)))]; rfl
                                    · simp only [upd, show ¬ 7 * dn + 7 + z = 7 * dn + 7 + y by omega, if_false]; exact hC z (by omega)) _ _ _ hW (lv_sub hl [1, 2, 3, 4, 5, 6, 7, 8, 9, 0] rfl)
                              · refine lv_iload (pc := 230) hx hb dX12_gossips_230 (lv_at hl 8 rfl) ?_
                                refine lv_goto (tgt := 245) (pc := 232) hx hb dX12_gossips_232 rfl ?_
                                obtain ⟨f67, ef67⟩ : ∃ fz : Nat → Int32, upd G3 (nI (7 * dn + 7 + y)).toNatClampNeg (G (7 * dn + ea) ||| G (7 * dn + eb)) = fz := ⟨_, rfl⟩
                                refine r_iast (ws' := [(h0, .inr (12, [.int i0, .ref b1, .int i2, .int i3, .int i4, .int i5, .ref b6, .ref b7, .ref b8, .ref b9, .ref b10, .ref b11, .ref b12, .ref b13, .ref b14, .ref b15, .ref b16, .ref b17, .int i18, .int i19, .int i20, .ref b21, .ref b22, .ref b23, .ref b24, .ref b25, .ref b26, .int i27, .ref b28, .ref b29, .ref b30, .ref b31, .ref b32, .ref b33, .ref b34, .ref b35, .ref b36, .int i37, .int i38, .int i39, .int i40, .int i41, .int i42, .int i43, .int i44, .int i45, .ref b46, .ref b47, .ref b48, .ref b49, .ref b50, .ref b51, .ref b52, .ref b53, .ref b54, .ref b55, .ref b56, .ref b57, .ref b58, .ref b59, .ref b60, .ref b61, .ref b62, .ref b63])), (b6, .inl (g.2.1 1, 11, .inl P)), (b7, .inl (g.2.1 1, 11, .inl Lc)), (b12, .inl (g.2.1 1, 132, .inl La)), (b13, .inl (g.2.1 1, 132, .inl Lb)), (b48, .inl (g.2.1 3, 12, .inl lw)), (b46, .inl (g.2.1 1, 112, .inl f67)), (b47, .inl (g.2.1 1, 16, .inl gr))]) X hW 6 rfl (vp_in_nI (by omega) (by decide)) ef67 rfl dX12_gossips_245 (fun H locs hW => ?_)
                                refine lv_iinc (v := nI (y + 1)) (lv' := [(9, .int (nI (y + 1))), (0, .ref h0), (1, .int (nI v)), (2, .int (nI dn)), (3, .int 3), (4, .int (nI (7 * dn))), (5, .int 0), (6, .int (nI i)), (7, .int (nI (12 * v + i))), (8, .int (G (7 * dn + ea) ||| G (7 * dn + eb)))]) (pc := 246) hx hb dX12_gossips_246 hl (k := 9) rfl ((nI_succ y).symm) (by decide) rfl (fun ls hl => ?_)
                                refine lv_goto (tgt := 183) (pc := 249) hx hb dX12_gossips_249 rfl ?_
                                have hW : WD g A s _ _ [(h0, .inr (12, [.int i0, .ref b1, .int i2, .int i3, .int i4, .int i5, .ref b6, .ref b7, .ref b8, .ref b9, .ref b10, .ref b11, .ref b12, .ref b13, .ref b14, .ref b15, .ref b16, .ref b17, .int i18, .int i19, .int i20, .ref b21, .ref b22, .ref b23, .ref b24, .ref b25, .ref b26, .int i27, .ref b28, .ref b29, .ref b30, .ref b31, .ref b32, .ref b33, .ref b34, .ref b35, .ref b36, .int i37, .int i38, .int i39, .int i40, .int i41, .int i42, .int i43, .int i44, .int i45, .ref b46, .ref b47, .ref b48, .ref b49, .ref b50, .ref b51, .ref b52, .ref b53, .ref b54, .ref b55, .ref b56, .ref b57, .ref b58, .ref b59, .ref b60, .ref b61, .ref b62, .ref b63])), (b6, .inl (g.2.1 1, 11, .inl P)), (b7, .inl (g.2.1 1, 11, .inl Lc)), (b12, .inl (g.2.1 1, 132, .inl La)), (b13, .inl (g.2.1 1, 132, .inl Lb)), (b48, .inl (g.2.1 3, 12, .inl lw)), (b46, .inl (g.2.1 1, 112, .inl f67)), (b47, .inl (g.2.1 1, 16, .inl gr))] := hW.pick [0, 1, 2, 3, 4, 5, 6, 7] rfl rfl
                                exact ih3 (y + 1) f67 (by omega) (by omega) (fun x hx => by
                                    rw [← ef67, nI_clamp (by omega)]
                                    simp only [upd, show ¬ x = 7 * dn + 7 + y by omega, if_false]
                                    exact hG3 x hx) (fun z hz => by
                                    rw [← ef67, nI_clamp (by omega)]
                                    by_cases e9 : z = y
                                    · subst e9; simp only [upd, if_true]; rw [gaft, if_pos (Or.inr (nI_inj6 (by omega) (by omega) c63))]; rfl
                                    · simp only [upd, show ¬ 7 * dn + 7 + z = 7 * dn + 7 + y by omega, if_false]; exact hC z (by omega)) _ _ _ hW (lv_sub hl [1, 2, 3, 4, 5, 6, 7, 8, 9, 0] rfl)
                      exact loop3 (pp + 1) 0 G2 (by omega) (Nat.zero_le _) hG2 (fun z hz => absurd hz (Nat.not_lt_zero z)) _ _ _ hW (lv_sub hl [3, 4, 5, 6, 7, 8, 9, 2, 1, 0] rfl)
                    · refine lv_goto (tgt := 276) (pc := 177) hx hb dX12_gossips_177 rfl ?_
                      refine lv_iinc (v := nI (i + 1)) (lv' := [(6, .int (nI (i + 1))), (8, .int (G (7 * dn + ea) ||| G (7 * dn + eb))), (7, .int (nI (12 * v + i))), (0, .ref h0), (1, .int (nI v)), (2, .int (nI dn)), (3, .int 3), (4, .int (nI (7 * dn))), (5, .int 0)]) (pc := 276) hx hb dX12_gossips_276 hl (k := 8) rfl ((nI_succ i).symm) (by decide) rfl (fun ls hl => ?_)
                      refine lv_goto (tgt := 74) (pc := 279) hx hb dX12_gossips_279 rfl ?_
                      have hW : WD g A s _ _ [(h0, .inr (12, [.int i0, .ref b1, .int i2, .int i3, .int i4, .int i5, .ref b6, .ref b7, .ref b8, .ref b9, .ref b10, .ref b11, .ref b12, .ref b13, .ref b14, .ref b15, .ref b16, .ref b17, .int i18, .int i19, .int i20, .ref b21, .ref b22, .ref b23, .ref b24, .ref b25, .ref b26, .int i27, .ref b28, .ref b29, .ref b30, .ref b31, .ref b32, .ref b33, .ref b34, .ref b35, .ref b36, .int i37, .int i38, .int i39, .int i40, .int i41, .int i42, .int i43, .int i44, .int i45, .ref b46, .ref b47, .ref b48, .ref b49, .ref b50, .ref b51, .ref b52, .ref b53, .ref b54, .ref b55, .ref b56, .ref b57, .ref b58, .ref b59, .ref b60, .ref b61, .ref b62, .ref b63])), (b6, .inl (g.2.1 1, 11, .inl P)), (b7, .inl (g.2.1 1, 11, .inl Lc)), (b12, .inl (g.2.1 1, 132, .inl La)), (b13, .inl (g.2.1 1, 132, .inl Lb)), (b48, .inl (g.2.1 3, 12, .inl lw)), (b46, .inl (g.2.1 1, 112, .inl G2)), (b47, .inl (g.2.1 1, 16, .inl gr))] := hW.pick [0, 1, 2, 3, 4, 5, 6, 7] rfl rfl
                      exact ih2 (i + 1) G2 gr (by omega) (by omega) (hG2) hgr (gno_s hno (by omega) hea heb eA eB (fun ha9 hb9 hw9 hu9 => absurd ⟨h_eA, c47⟩ hu9)) _ _ _ hW (lv_sub hl [3, 4, 5, 6, 7, 8, 0] rfl)
          exact loop2 (lc + 1) 0 G gr0 (by omega) (Nat.zero_le _) (fun x hx => rfl) hg0 gno_0 _ _ _ hW (lv_sub hl [1, 2, 3, 4, 5, 6, 0] rfl)
      · have hkl : k < pp := ge_f (by omega) (by omega) c3
        refine lv_iload (pc := 23) hx hb dX12_gossips_23 (lv_at hl 5 rfl) ?_
        refine lv_if_eq (tgt := 50) (pc := 25) hx hb dX12_gossips_25 rfl (fun c68 => ?_) (fun c68 => ?_)
        · refine lv_iconst (v := 0) (pc := 50) hx hb dX12_gossips_50 (by decide) ?_
          refine lv_istore (lv' := [(5, .int 0), (0, .ref h0), (1, .int (nI v)), (2, .int (nI dn)), (3, .int 3), (4, .int (nI (7 * dn))), (6, .int (nI k))]) (pc := 51) hx hb dX12_gossips_51 hl (by decide) rfl (fun ls hl => ?_)
          refine lv_iinc (v := nI (k + 1)) (lv' := [(6, .int (nI (k + 1))), (5, .int 0), (0, .ref h0), (1, .int (nI v)), (2, .int (nI dn)), (3, .int 3), (4, .int (nI (7 * dn)))]) (pc := 53) hx hb dX12_gossips_53 hl (k := 6) rfl ((nI_succ k).symm) (by decide) rfl (fun ls hl => ?_)
          refine lv_goto (tgt := 12) (pc := 56) hx hb dX12_gossips_56 rfl ?_
          have hW : WD g A s _ _ [(h0, .inr (12, [.int i0, .ref b1, .int i2, .int i3, .int i4, .int i5, .ref b6, .ref b7, .ref b8, .ref b9, .ref b10, .ref b11, .ref b12, .ref b13, .ref b14, .ref b15, .ref b16, .ref b17, .int i18, .int i19, .int i20, .ref b21, .ref b22, .ref b23, .ref b24, .ref b25, .ref b26, .int i27, .ref b28, .ref b29, .ref b30, .ref b31, .ref b32, .ref b33, .ref b34, .ref b35, .ref b36, .int i37, .int i38, .int i39, .int i40, .int i41, .int i42, .int i43, .int i44, .int i45, .ref b46, .ref b47, .ref b48, .ref b49, .ref b50, .ref b51, .ref b52, .ref b53, .ref b54, .ref b55, .ref b56, .ref b57, .ref b58, .ref b59, .ref b60, .ref b61, .ref b62, .ref b63])), (b6, .inl (g.2.1 1, 11, .inl P)), (b7, .inl (g.2.1 1, 11, .inl Lc)), (b12, .inl (g.2.1 1, 132, .inl La)), (b13, .inl (g.2.1 1, 132, .inl Lb)), (b48, .inl (g.2.1 3, 12, .inl lw)), (b46, .inl (g.2.1 1, 112, .inl G)), (b47, .inl (g.2.1 1, 16, .inl gr0))] := hW.pick [0, 1, 2, 3, 4, 5, 6, 7] rfl rfl
          exact ih1 (k + 1) 0 (by omega) (by omega) (Or.inr ⟨rfl, (hal.resolve_left (fun r => absurd (r.1.symm.trans c68) (by decide))).2⟩) _ _ _ hW (lv_sub hl [2, 3, 4, 5, 6, 1, 0] rfl)
        · have hal9 : ¬ al = 0 := c68
          have hal1 : ¬ al = 0 → ∀ o : Nat, o < k → (rwt G dn) o = evy (nI pp) := fun q => (hal.resolve_right (fun r => q r.1)).2
          refine lv_aload_n (pc := 28) hx hb dX12_gossips_28 rfl (lv_at hl 0 rfl) ?_
          refine r_get X hW 0 ciX12 46 rfl (by decide) m_1273 rfl rfl dX12_gossips_29 ?_
          refine lv_iload (pc := 32) hx hb dX12_gossips_32 (lv_at hl 4 rfl) ?_
          refine lv_iload (pc := 34) hx hb dX12_gossips_34 (lv_at hl 6 rfl) ?_
          refine lv_iadd (pc := 36) hx hb dX12_gossips_36 ?_
          refine lv_topi (fun uv69 euv69 => ?_)
          obtain rfl : uv69 = nI (7 * dn + k) := euv69.trans (nI_add _ _)
          refine r_iald X hW 6 rfl (vp_in_nI (by omega) (by decide)) dX12_gossips_37 ?_
          refine lv_topi (fun uv70 euv70 => ?_)
          obtain rfl : uv70 = G (7 * dn + k) := euv70.trans (by rw [nI_clamp (by omega)])
          refine lv_aload_n (pc := 38) hx hb dX12_gossips_38 rfl (lv_at hl 0 rfl) ?_
          refine lv_iload_n (pc := 39) hx hb dX12_gossips_39 rfl (lv_at hl 1 rfl) ?_
          refine c_Vi (pc := 40) (As := [.int (nI v)]) (rest := [.int (G (7 * dn + k))]) (wr := [(b7, .inl (g.2.1 1, 11, .inl Lc)), (b12, .inl (g.2.1 1, 132, .inl La)), (b13, .inl (g.2.1 1, 132, .inl Lb)), (b48, .inl (g.2.1 3, 12, .inl lw)), (b46, .inl (g.2.1 1, 112, .inl G)), (b47, .inl (g.2.1 1, 16, .inl gr0))]) X hW 0 ciX12 rfl (C_X12_everybodyG l g h0 b1 b6 b7 b8 b9 b10 b11 b12 b13 b14 b15 b16 b17 b21 b22 b23 b24 b25 b26 b28 b29 b30 b31 b32 b33 b34 b35 b36 b46 b47 b48 b49 b50 b51 b52 b53 b54 b55 b56 b57 b58 b59 b60 b61 b62 b63 i0 i2 i3 i4 i5 i18 i19 i20 i27 i37 i38 i39 i40 i41 i42 i43 i44 i45 P v (by omega)) vX12_274 [0, 1] [2, 3, 4, 5, 6, 7] rfl rfl rfl rfl rfl rfl hl.1 rfl (Nat.le_of_ble_eq_true rfl) ⟨Nat.le_of_ble_eq_true rfl, Nat.le_of_ble_eq_true rfl⟩ ⟨Nat.le_of_ble_eq_true rfl, Nat.le_of_ble_eq_true rfl⟩ dX12_gossips_40 (fun r71 u9 H locs hq hW => ?_)
          obtain ⟨rfl, rfl⟩ := hq
          have hW : WD g A s _ _ [(b7, .inl (g.2.1 1, 11, .inl Lc)), (b12, .inl (g.2.1 1, 132, .inl La)), (b13, .inl (g.2.1 1, 132, .inl Lb)), (b48, .inl (g.2.1 3, 12, .inl lw)), (b46, .inl (g.2.1 1, 112, .inl G)), (b47, .inl (g.2.1 1, 16, .inl gr0)), (h0, .inr (12, [.int i0, .ref b1, .int i2, .int i3, .int i4, .int i5, .ref b6, .ref b7, .ref b8, .ref b9, .ref b10, .ref b11, .ref b12, .ref b13, .ref b14, .ref b15, .ref b16, .ref b17, .int i18, .int i19, .int i20, .ref b21, .ref b22, .ref b23, .ref b24, .ref b25, .ref b26, .int i27, .ref b28, .ref b29, .ref b30, .ref b31, .ref b32, .ref b33, .ref b34, .ref b35, .ref b36, .int i37, .int i38, .int i39, .int i40, .int i41, .int i42, .int i43, .int i44, .int i45, .ref b46, .ref b47, .ref b48, .ref b49, .ref b50, .ref b51, .ref b52, .ref b53, .ref b54, .ref b55, .ref b56, .ref b57, .ref b58, .ref b59, .ref b60, .ref b61, .ref b62, .ref b63])), (b6, .inl (g.2.1 1, 11, .inl P))] := hW
          refine lv_icmp_ne (tgt := 50) (pc := 43) hx hb dX12_gossips_43 rfl (fun c72 => ?_) (fun c72 => ?_)
          · refine lv_iconst (v := 0) (pc := 50) hx hb dX12_gossips_50 (by decide) ?_
            refine lv_istore (lv' := [(5, .int 0), (0, .ref h0), (1, .int (nI v)), (2, .int (nI dn)), (3, .int 3), (4, .int (nI (7 * dn))), (6, .int (nI k))]) (pc := 51) hx hb dX12_gossips_51 hl (by decide) rfl (fun ls hl => ?_)
            refine lv_iinc (v := nI (k + 1)) (lv' := [(6, .int (nI (k + 1))), (5, .int 0), (0, .ref h0), (1, .int (nI v)), (2, .int (nI dn)), (3, .int 3), (4, .int (nI (7 * dn)))]) (pc := 53) hx hb dX12_gossips_53 hl (k := 6) rfl ((nI_succ k).symm) (by decide) rfl (fun ls hl => ?_)
            refine lv_goto (tgt := 12) (pc := 56) hx hb dX12_gossips_56 rfl ?_
            have hW : WD g A s _ _ [(h0, .inr (12, [.int i0, .ref b1, .int i2, .int i3, .int i4, .int i5, .ref b6, .ref b7, .ref b8, .ref b9, .ref b10, .ref b11, .ref b12, .ref b13, .ref b14, .ref b15, .ref b16, .ref b17, .int i18, .int i19, .int i20, .ref b21, .ref b22, .ref b23, .ref b24, .ref b25, .ref b26, .int i27, .ref b28, .ref b29, .ref b30, .ref b31, .ref b32, .ref b33, .ref b34, .ref b35, .ref b36, .int i37, .int i38, .int i39, .int i40, .int i41, .int i42, .int i43, .int i44, .int i45, .ref b46, .ref b47, .ref b48, .ref b49, .ref b50, .ref b51, .ref b52, .ref b53, .ref b54, .ref b55, .ref b56, .ref b57, .ref b58, .ref b59, .ref b60, .ref b61, .ref b62, .ref b63])), (b6, .inl (g.2.1 1, 11, .inl P)), (b7, .inl (g.2.1 1, 11, .inl Lc)), (b12, .inl (g.2.1 1, 132, .inl La)), (b13, .inl (g.2.1 1, 132, .inl Lb)), (b48, .inl (g.2.1 3, 12, .inl lw)), (b46, .inl (g.2.1 1, 112, .inl G)), (b47, .inl (g.2.1 1, 16, .inl gr0))] := hW.pick [6, 7, 0, 1, 2, 3, 4, 5] rfl rfl
            exact ih1 (k + 1) 0 (by omega) (by omega) (Or.inr ⟨rfl, (fun q => c72 (by have := q k hkl; rw [hP]; exact this))⟩) _ _ _ hW (lv_sub hl [2, 3, 4, 5, 6, 1, 0] rfl)
          · refine lv_iconst (v := 1) (pc := 46) hx hb dX12_gossips_46 (by decide) ?_
            refine lv_goto (tgt := 51) (pc := 47) hx hb dX12_gossips_47 rfl ?_
            refine lv_istore (lv' := [(5, .int 1), (0, .ref h0), (1, .int (nI v)), (2, .int (nI dn)), (3, .int 3), (4, .int (nI (7 * dn))), (6, .int (nI k))]) (pc := 51) hx hb dX12_gossips_51 hl (by decide) rfl (fun ls hl => ?_)
            refine lv_iinc (v := nI (k + 1)) (lv' := [(6, .int (nI (k + 1))), (5, .int 1), (0, .ref h0), (1, .int (nI v)), (2, .int (nI dn)), (3, .int 3), (4, .int (nI (7 * dn)))]) (pc := 53) hx hb dX12_gossips_53 hl (k := 6) rfl ((nI_succ k).symm) (by decide) rfl (fun ls hl => ?_)
            refine lv_goto (tgt := 12) (pc := 56) hx hb dX12_gossips_56 rfl ?_
            have hW : WD g A s _ _ [(h0, .inr (12, [.int i0, .ref b1, .int i2, .int i3, .int i4, .int i5, .ref b6, .ref b7, .ref b8, .ref b9, .ref b10, .ref b11, .ref b12, .ref b13, .ref b14, .ref b15, .ref b16, .ref b17, .int i18, .int i19, .int i20, .ref b21, .ref b22, .ref b23, .ref b24, .ref b25, .ref b26, .int i27, .ref b28, .ref b29, .ref b30, .ref b31, .ref b32, .ref b33, .ref b34, .ref b35, .ref b36, .int i37, .int i38, .int i39, .int i40, .int i41, .int i42, .int i43, .int i44, .int i45, .ref b46, .ref b47, .ref b48, .ref b49, .ref b50, .ref b51, .ref b52, .ref b53, .ref b54, .ref b55, .ref b56, .ref b57, .ref b58, .ref b59, .ref b60, .ref b61, .ref b62, .ref b63])), (b6, .inl (g.2.1 1, 11, .inl P)), (b7, .inl (g.2.1 1, 11, .inl Lc)), (b12, .inl (g.2.1 1, 132, .inl La)), (b13, .inl (g.2.1 1, 132, .inl Lb)), (b48, .inl (g.2.1 3, 12, .inl lw)), (b46, .inl (g.2.1 1, 112, .inl G)), (b47, .inl (g.2.1 1, 16, .inl gr0))] := hW.pick [6, 7, 0, 1, 2, 3, 4, 5] rfl rfl
            exact ih1 (k + 1) 1 (by omega) (by omega) (Or.inl ⟨rfl, gall_s (p := pp) (hal1 hal9) (by show G (7 * dn + k) = _; rw [c72, hP])⟩) _ _ _ hW (lv_sub hl [2, 3, 4, 5, 6, 1, 0] rfl)
  exact loop1 (pp + 1) 0 1 (by omega) (Nat.zero_le _) (Or.inl ⟨rfl, fun o ho => absurd ho (Nat.not_lt_zero o)⟩) _ _ _ hW (lv_sub hl [3, 4, 5, 6, 2, 1, 0] rfl)

set_option maxHeartbeats 40000000 in
set_option maxRecDepth 100000 in
theorem C_X12_gossips_4 (l : Launch) (g : GG) (h0 b1 b6 b7 b8 b9 b10 b11 b12 b13 b14 b15 b16 b17 b21 b22 b23 b24 b25 b26 b28 b29 b30 b31 b32 b33 b34 b35 b36 b46 b47 b48 b49 b50 b51 b52 b53 b54 b55 b56 b57 b58 b59 b60 b61 b62 b63 : Nat) (i0 i2 i3 i4 i5 i18 i19 i20 i27 i37 i38 i39 i40 i41 i42 i43 i44 i45 : Int32) (P Lc La Lb lw G gr0 : Nat → Int32) (v lc pp dn : Nat) (hv : v ≤ 10) (hlc : lc ≤ 12) (hpp : pp ≤ 7) (hP : P v = nI pp) (hLc : Lc v = nI lc) (hLA : in6 La) (hLB : in6 Lb) (hg0 : gb16 gr0) (hdn : dn + 4 ≤ 15) : MetI l g yX12_gossips cX12_gossips 10 (some .boolean) 5 0 0 [.ref h0, .int (nI v), .int (nI dn), .int 4] [(h0, .inr (12, [.int i0, .ref b1, .int i2, .int i3, .int i4, .int i5, .ref b6, .ref b7, .ref b8, .ref b9, .ref b10, .ref b11, .ref b12, .ref b13, .ref b14, .ref b15, .ref b16, .ref b17, .int i18, .int i19, .int i20, .ref b21, .ref b22, .ref b23, .ref b24, .ref b25, .ref b26, .int i27, .ref b28, .ref b29, .ref b30, .ref b31, .ref b32, .ref b33, .ref b34, .ref b35, .ref b36, .int i37, .int i38, .int i39, .int i40, .int i41, .int i42, .int i43, .int i44, .int i45, .ref b46, .ref b47, .ref b48, .ref b49, .ref b50, .ref b51, .ref b52, .ref b53, .ref b54, .ref b55, .ref b56, .ref b57, .ref b58, .ref b59, .ref b60, .ref b61, .ref b62, .ref b63])), (b6, .inl (g.2.1 1, 11, .inl P)), (b7, .inl (g.2.1 1, 11, .inl Lc)), (b12, .inl (g.2.1 1, 132, .inl La)), (b13, .inl (g.2.1 1, 132, .inl Lb)), (b48, .inl (g.2.1 3, 12, .inl lw)), (b46, .inl (g.2.1 1, 112, .inl G)), (b47, .inl (g.2.1 1, 16, .inl gr0))] (fun r u => ∃ G' gr' : Nat → Int32, (r = 0 ∨ r = 1) ∧ (gok (gV La Lb lw v lc) pp (evy (nI pp)) 4 (rwt G dn) → r = 1) ∧ (∀ x : Nat, x < 7 * (dn + 1) → G' x = G x) ∧ gb16 gr' ∧ u = [(h0, .inr (12, [.int i0, .ref b1, .int i2, .int i3, .int i4, .int i5, .ref b6, .ref b7, .ref b8, .ref b9, .ref b10, .ref b11, .ref b12, .ref b13, .ref b14, .ref b15, .ref b16, .ref b17, .int i18, .int i19, .int i20, .ref b21, .ref b22, .ref b23, .ref b24, .ref b25, .ref b26, .int i27, .ref b28, .ref b29, .ref b30, .ref b31, .ref b32, .ref b33, .ref b34, .ref b35, .ref b36, .int i37, .int i38, .int i39, .int i40, .int i41, .int i42, .int i43, .int i44, .int i45, .ref b46, .ref b47, .ref b48, .ref b49, .ref b50, .ref b51, .ref b52, .ref b53, .ref b54, .ref b55, .ref b56, .ref b57, .ref b58, .ref b59, .ref b60, .ref b61, .ref b62, .ref b63])), (b6, .inl (g.2.1 1, 11, .inl P)), (b7, .inl (g.2.1 1, 11, .inl Lc)), (b12, .inl (g.2.1 1, 132, .inl La)), (b13, .inl (g.2.1 1, 132, .inl Lb)), (b48, .inl (g.2.1 3, 12, .inl lw)), (b46, .inl (g.2.1 1, 112, .inl G')), (b47, .inl (g.2.1 1, 16, .inl gr'))]) := by
  refine MetI.of (own := RX12) rfl (by decide) (Nat.le_of_ble_eq_true rfl) ?_
  intro p e s m below meth c A ls args Q hQ X hr hin hW hl
  have hx := X.1
  have hb := X.2.1
  have hl : lv_has ls 10 [(0, .ref h0), (1, .int (nI v)), (2, .int (nI dn)), (3, .int 4)] := hl
  refine lv_bipush (v := 7) (pc := 0) hx hb dX12_gossips_0 (by decide) ?_
  refine lv_iload_n (pc := 2) hx hb dX12_gossips_2 rfl (lv_at hl 2 rfl) ?_
  refine lv_imul (pc := 3) hx hb dX12_gossips_3 ?_
  refine lv_topi (fun uv1 euv1 => ?_)
  obtain rfl : uv1 = nI (7 * dn) := euv1.trans (pk_mul _ _)
  refine lv_istore (lv' := [(4, .int (nI (7 * dn))), (0, .ref h0), (1, .int (nI v)), (2, .int (nI dn)), (3, .int 4)]) (pc := 4) hx hb dX12_gossips_4 hl (by decide) rfl (fun ls hl => ?_)
  refine lv_iconst (v := 1) (pc := 6) hx hb dX12_gossips_6 (by decide) ?_
  refine lv_istore (lv' := [(5, .int 1), (4, .int (nI (7 * dn))), (0, .ref h0), (1, .int (nI v)), (2, .int (nI dn)), (3, .int 4)]) (pc := 7) hx hb dX12_gossips_7 hl (by decide) rfl (fun ls hl => ?_)
  refine lv_iconst (v := 0) (pc := 9) hx hb dX12_gossips_9 (by decide) ?_
  refine lv_istore (lv' := [(6, .int 0), (5, .int 1), (4, .int (nI (7 * dn))), (0, .ref h0), (1, .int (nI v)), (2, .int (nI dn)), (3, .int 4)]) (pc := 10) hx hb dX12_gossips_10 hl (by decide) rfl (fun ls hl => ?_)
  have loop1 : ∀ (fu : Nat) (k : Nat) (al : Int32), (pp < fu + k) → (k ≤ pp) → ((al = 1 ∧ ∀ o : Nat, o < k → (rwt G dn) o = evy (nI pp)) ∨ (al = 0 ∧ ¬ gall pp (evy (nI pp)) (rwt G dn))) → ∀ (H : Heap) (locs : List Loc) (ls : Array Slot), WD g A s H locs [(h0, .inr (12, [.int i0, .ref b1, .int i2, .int i3, .int i4, .int i5, .ref b6, .ref b7, .ref b8, .ref b9, .ref b10, .ref b11, .ref b12, .ref b13, .ref b14, .ref b15, .ref b16, .ref b17, .int i18, .int i19, .int i20, .ref b21, .ref b22, .ref b23, .ref b24, .ref b25, .ref b26, .int i27, .ref b28, .ref b29, .ref b30, .ref b31, .ref b32, .ref b33, .ref b34, .ref b35, .ref b36, .int i37, .int i38, .int i39, .int i40, .int i41, .int i42, .int i43, .int i44, .int i45, .ref b46, .ref b47, .ref b48, .ref b49, .ref b50, .ref b51, .ref b52, .ref b53, .ref b54, .ref b55, .ref b56, .ref b57, .ref b58, .ref b59, .ref b60, .ref b61, .ref b62, .ref b63])), (b6, .inl (g.2.1 1, 11, .inl P)), (b7, .inl (g.2.1 1, 11, .inl Lc)), (b12, .inl (g.2.1 1, 132, .inl La)), (b13, .inl (g.2.1 1, 132, .inl Lb)), (b48, .inl (g.2.1 3, 12, .inl lw)), (b46, .inl (g.2.1 1, 112, .inl G)), (b47, .inl (g.2.1 1, 16, .inl gr0))] → lv_has ls 10 [(0, .ref h0), (1, .int (nI v)), (2, .int (nI dn)), (3, .int 4), (4, .int (nI (7 * dn))), (5, .int al), (6, .int (nI k))] → W p l e (RM 5 0 0) s m args below meth c H locs 0 0 Q (F0 m 12 ls []) := by
    intro fu
    induction fu with
    | zero =>
      intro k al hm hk hal
      exact absurd hm (by omega)
    | succ fu ih1 =>
      intro k al hm hk hal H locs ls hW hl
      refine lv_iload (pc := 12) hx hb dX12_gossips_12 (lv_at hl 6 rfl) ?_
      refine lv_aload_n (pc := 14) hx hb dX12_gossips_14 rfl (lv_at hl 0 rfl) ?_
      refine r_get X hW 0 ciX12 6 rfl (by decide) m_1237 rfl rfl dX12_gossips_15 ?_
      refine lv_iload_n (pc := 18) hx hb dX12_gossips_18 rfl (lv_at hl 1 rfl) ?_
      refine r_iald X hW 1 rfl (vp_in_nI (by omega) (by decide)) dX12_gossips_19 ?_
      refine lv_topi (fun uv2 euv2 => ?_)
      obtain rfl : uv2 = nI pp := euv2.trans (by rw [nI_clamp (by omega)]; exact hP)
      refine lv_icmp_ge (tgt := 59) (pc := 20) hx hb dX12_gossips_20 rfl (fun c3 => ?_) (fun c3 => ?_)
      · have hkp : k = pp := Nat.le_antisymm hk (ge_t (by omega) (by omega) c3)
        rw [hkp] at hal
        rcases hal with ⟨ha1, hal⟩ | ⟨ha1, hal⟩
        · subst ha1
          refine lv_iload (pc := 59) hx hb dX12_gossips_59 (lv_at hl 5 rfl) ?_
          refine lv_if_ne (tgt := 68) (pc := 61) hx hb dX12_gossips_61 rfl (fun c4 => ?_) (fun c4 => absurd c4 (by decide))
          refine lv_iload (pc := 68) hx hb dX12_gossips_68 (lv_at hl 5 rfl) ?_
          exact e_z X hQ hr hW (u := [(h0, .inr (12, [.int i0, .ref b1, .int i2, .int i3, .int i4, .int i5, .ref b6, .ref b7, .ref b8, .ref b9, .ref b10, .ref b11, .ref b12, .ref b13, .ref b14, .ref b15, .ref b16, .ref b17, .int i18, .int i19, .int i20, .ref b21, .ref b22, .ref b23, .ref b24, .ref b25, .ref b26, .int i27, .ref b28, .ref b29, .ref b30, .ref b31, .ref b32, .ref b33, .ref b34, .ref b35, .ref b36, .int i37, .int i38, .int i39, .int i40, .int i41, .int i42, .int i43, .int i44, .int i45, .ref b46, .ref b47, .ref b48, .ref b49, .ref b50, .ref b51, .ref b52, .ref b53, .ref b54, .ref b55, .ref b56, .ref b57, .ref b58, .ref b59, .ref b60, .ref b61, .ref b62, .ref b63])), (b6, .inl (g.2.1 1, 11, .inl P)), (b7, .inl (g.2.1 1, 11, .inl Lc)), (b12, .inl (g.2.1 1, 132, .inl La)), (b13, .inl (g.2.1 1, 132, .inl Lb)), (b48, .inl (g.2.1 3, 12, .inl lw)), (b46, .inl (g.2.1 1, 112, .inl G)), (b47, .inl (g.2.1 1, 16, .inl gr0))]) rfl [0, 1, 2, 3, 4, 5, 6, 7] rfl rfl (⟨_, _, Or.inr rfl, fun _ => rfl, fun x hx => rfl, hg0, rfl⟩) ⟨Nat.le_of_ble_eq_true rfl, Nat.le_of_ble_eq_true rfl⟩ dX12_gossips_70
        · subst ha1
          refine lv_iload (pc := 59) hx hb dX12_gossips_59 (lv_at hl 5 rfl) ?_
          refine lv_if_ne (tgt := 68) (pc := 61) hx hb dX12_gossips_61 rfl (fun c5 => absurd (by decide) c5) (fun c5 => ?_)
          refine lv_iload_n (pc := 64) hx hb dX12_gossips_64 rfl (lv_at hl 3 rfl) ?_
          refine lv_if_ne (tgt := 71) (pc := 65) hx hb dX12_gossips_65 rfl (fun c6 => ?_) (fun c6 => absurd c6 (by decide))
          refine lv_iconst (v := 0) (pc := 71) hx hb dX12_gossips_71 (by decide) ?_
          refine lv_istore (lv' := [(6, .int 0), (0, .ref h0), (1, .int (nI v)), (2, .int (nI dn)), (3, .int 4), (4, .int (nI (7 * dn))), (5, .int 0)]) (pc := 72) hx hb dX12_gossips_72 hl (by decide) rfl (fun ls hl => ?_)
          have hW : WD g A s _ _ [(h0, .inr (12, [.int i0, .ref b1, .int i2, .int i3, .int i4, .int i5, .ref b6, .ref b7, .ref b8, .ref b9, .ref b10, .ref b11, .ref b12, .ref b13, .ref b14, .ref b15, .ref b16, .ref b17, .int i18, .int i19, .int i20, .ref b21, .ref b22, .ref b23, .ref b24, .ref b25, .ref b26, .int i27, .ref b28, .ref b29, .ref b30, .ref b31, .ref b32, .ref b33, .ref b34, .ref b35, .ref b36, .int i37, .int i38, .int i39, .int i40, .int i41, .int i42, .int i43, .int i44, .int i45, .ref b46, .ref b47, .ref b48, .ref b49, .ref b50, .ref b51, .ref b52, .ref b53, .ref b54, .ref b55, .ref b56, .ref b57, .ref b58, .ref b59, .ref b60, .ref b61, .ref b62, .ref b63])), (b6, .inl (g.2.1 1, 11, .inl P)), (b7, .inl (g.2.1 1, 11, .inl Lc)), (b12, .inl (g.2.1 1, 132, .inl La)), (b13, .inl (g.2.1 1, 132, .inl Lb)), (b48, .inl (g.2.1 3, 12, .inl lw)), (b46, .inl (g.2.1 1, 112, .inl G)), (b47, .inl (g.2.1 1, 16, .inl gr0))] := hW.pick [0, 1, 2, 3, 4, 5, 6, 7] rfl rfl
          have loop2 : ∀ (fv : Nat) (i : Nat) (G2 : Nat → Int32) (gr : Nat → Int32), (lc < fv + i) → (i ≤ lc) → (∀ x : Nat, x < 7 * (dn + 1) → G2 x = G x) → (gb16 gr) → (gno La Lb lw v lc pp (evy (nI pp)) 3 (rwt G dn) i) → ∀ (H : Heap) (locs : List Loc) (ls : Array Slot), WD g A s H locs [(h0, .inr (12, [.int i0, .ref b1, .int i2, .int i3, .int i4, .int i5, .ref b6, .ref b7, .ref b8, .ref b9, .ref b10, .ref b11, .ref b12, .ref b13, .ref b14, .ref b15, .ref b16, .ref b17, .int i18, .int i19, .int i20, .ref b21, .ref b22, .ref b23, .ref b24, .ref b25, .ref b26, .int i27, .ref b28, .ref b29, .ref b30, .ref b31, .ref b32, .ref b33, .ref b34, .ref b35, .ref b36, .int i37, .int i38, .int i39, .int i40, .int i41, .int i42, .int i43, .int i44, .int i45, .ref b46, .ref b47, .ref b48, .ref b49, .ref b50, .ref b51, .ref b52, .ref b53, .ref b54, .ref b55, .ref b56, .ref b57, .ref b58, .ref b59, .ref b60, .ref b61, .ref b62, .ref b63])), (b6, .inl (g.2.1 1, 11, .inl P)), (b7, .inl (g.2.1 1, 11, .inl Lc)), (b12, .inl (g.2.1 1, 132, .inl La)), (b13, .inl (g.2.1 1, 132, .inl Lb)), (b48, .inl (g.2.1 3, 12, .inl lw)), (b46, .inl (g.2.1 1, 112, .inl G2)), (b47, .inl (g.2.1 1, 16, .inl gr))] → lv_has ls 10 [(0, .ref h0), (1, .int (nI v)), (2, .int (nI dn)), (3, .int 4), (4, .int (nI (7 * dn))), (5, .int 0), (6, .int (nI i))] → W p l e (RM 5 0 0) s m args below meth c H locs 0 0 Q (F0 m 74 ls []) := by
            intro fv
            induction fv with
            | zero =>
              intro i G2 gr hm2 hi hG2 hgr hno
              exact absurd hm2 (by omega)
            | succ fv ih2 =>
              intro i G2 gr hm2 hi hG2 hgr hno H locs ls hW hl
              refine lv_iload (pc := 74) hx hb dX12_gossips_74 (lv_at hl 6 rfl) ?_
              refine lv_aload_n (pc := 76) hx hb dX12_gossips_76 rfl (lv_at hl 0 rfl) ?_
              refine r_get X hW 0 ciX12 7 rfl (by decide) m_1238 rfl rfl dX12_gossips_77 ?_
              refine lv_iload_n (pc := 80) hx hb dX12_gossips_80 rfl (lv_at hl 1 rfl) ?_
              refine r_iald X hW 2 rfl (vp_in_nI (by omega) (by decide)) dX12_gossips_81 ?_
              refine lv_topi (fun uv7 euv7 => ?_)
              obtain rfl : uv7 = nI lc := euv7.trans (by rw [nI_clamp (by omega)]; exact hLc)
              refine lv_icmp_ge (tgt := 282) (pc := 82) hx hb dX12_gossips_82 rfl (fun c8 => ?_) (fun c8 => ?_)
              · have hie : i = lc := Nat.le_antisymm hi (ge_t (by omega) (by omega) c8)
                refine lv_iconst (v := 0) (pc := 282) hx hb dX12_gossips_282 (by decide) ?_
                exact e_z X hQ hr hW (u := [(h0, .inr (12, [.int i0, .ref b1, .int i2, .int i3, .int i4, .int i5, .ref b6, .ref b7, .ref b8, .ref b9, .ref b10, .ref b11, .ref b12, .ref b13, .ref b14, .ref b15, .ref b16, .ref b17, .int i18, .int i19, .int i20, .ref b21, .ref b22, .ref b23, .ref b24, .ref b25, .ref b26, .int i27, .ref b28, .ref b29, .ref b30, .ref b31, .ref b32, .ref b33, .ref b34, .ref b35, .ref b36, .int i37, .int i38, .int i39, .int i40, .int i41, .int i42, .int i43, .int i44, .int i45, .ref b46, .ref b47, .ref b48, .ref b49, .ref b50, .ref b51, .ref b52, .ref b53, .ref b54, .ref b55, .ref b56, .ref b57, .ref b58, .ref b59, .ref b60, .ref b61, .ref b62, .ref b63])), (b6, .inl (g.2.1 1, 11, .inl P)), (b7, .inl (g.2.1 1, 11, .inl Lc)), (b12, .inl (g.2.1 1, 132, .inl La)), (b13, .inl (g.2.1 1, 132, .inl Lb)), (b48, .inl (g.2.1 3, 12, .inl lw)), (b46, .inl (g.2.1 1, 112, .inl G2)), (b47, .inl (g.2.1 1, 16, .inl gr))]) rfl [0, 1, 2, 3, 4, 5, 6, 7] rfl rfl (⟨_, _, Or.inl rfl, fun q => absurd q (gno_end hno hie hal), hG2, hgr, rfl⟩) ⟨Nat.le_of_ble_eq_true rfl, Nat.le_of_ble_eq_true rfl⟩ dX12_gossips_283
              · have hil : i < lc := ge_f (by omega) (by omega) c8
                obtain ⟨ea, hea, eA⟩ := hLA (12 * v + i) (by omega)
                obtain ⟨eb, heb, eB⟩ := hLB (12 * v + i) (by omega)
                refine lv_bipush (v := 12) (pc := 85) hx hb dX12_gossips_85 (by decide) ?_
                refine lv_iload_n (pc := 87) hx hb dX12_gossips_87 rfl (lv_at hl 1 rfl) ?_
                refine lv_imul (pc := 88) hx hb dX12_gossips_88 ?_
                refine lv_topi (fun uv9 euv9 => ?_)
                obtain rfl : uv9 = nI (12 * v) := euv9.trans (pk_mul _ _)
                refine lv_iload (pc := 89) hx hb dX12_gossips_89 (lv_at hl 6 rfl) ?_
                refine lv_iadd (pc := 91) hx hb dX12_gossips_91 ?_
                refine lv_topi (fun uv10 euv10 => ?_)
                obtain rfl : uv10 = nI (12 * v + i) := euv10.trans (nI_add _ _)
                refine lv_istore (lv' := [(7, .int (nI (12 * v + i))), (0, .ref h0), (1, .int (nI v)), (2, .int (nI dn)), (3, .int 4), (4, .int (nI (7 * dn))), (5, .int 0), (6, .int (nI i))]) (pc := 92) hx hb dX12_gossips_92 hl (by decide) rfl (fun ls hl => ?_)
                refine lv_aload_n (pc := 94) hx hb dX12_gossips_94 rfl (lv_at hl 1 rfl) ?_
                refine r_get X hW 0 ciX12 46 rfl (by decide) m_1273 rfl rfl dX12_gossips_95 ?_
                refine lv_iload (pc := 98) hx hb dX12_gossips_98 (lv_at hl 5 rfl) ?_
                refine lv_aload_n (pc := 100) hx hb dX12_gossips_100 rfl (lv_at hl 1 rfl) ?_
                refine r_get X hW 0 ciX12 12 rfl (by decide) m_1243 rfl rfl dX12_gossips_101 ?_
                refine lv_iload (pc := 104) hx hb dX12_gossips_104 (lv_at hl 0 rfl) ?_
                refine r_iald X hW 3 rfl (vp_in_nI (by omega) (by decide)) dX12_gossips_106 ?_
                refine lv_topi (fun uv11 euv11 => ?_)
                obtain rfl : uv11 = nI ea := euv11.trans (by rw [nI_clamp (by omega)]; exact eA)
                refine lv_iadd (pc := 107) hx hb dX12_gossips_107 ?_
                refine lv_topi (fun uv12 euv12 => ?_)
                obtain rfl : uv12 = nI (7 * dn + ea) := euv12.trans (nI_add _ _)
                refine r_iald X hW 6 rfl (vp_in_nI (by omega) (by decide)) dX12_gossips_108 ?_
                refine lv_topi (fun uv13 euv13 => ?_)
                obtain rfl : uv13 = G (7 * dn + ea) := euv13.trans (by rw [nI_clamp (by omega)]; exact hG2 _ (by omega))
                refine lv_aload_n (pc := 109) hx hb dX12_gossips_109 rfl (lv_at hl 1 rfl) ?_
                refine r_get X hW 0 ciX12 46 rfl (by decide) m_1273 rfl rfl dX12_gossips_110 ?_
                refine lv_iload (pc := 113) hx hb dX12_gossips_113 (lv_at hl 5 rfl) ?_
                refine lv_aload_n (pc := 115) hx hb dX12_gossips_115 rfl (lv_at hl 1 rfl) ?_
                refine r_get X hW 0 ciX12 13 rfl (by decide) m_1244 rfl rfl dX12_gossips_116 ?_
                refine lv_iload (pc := 119) hx hb dX12_gossips_119 (lv_at hl 0 rfl) ?_
                refine r_iald X hW 4 rfl (vp_in_nI (by omega) (by decide)) dX12_gossips_121 ?_
                refine lv_topi (fun uv14 euv14 => ?_)
                obtain rfl : uv14 = nI eb := euv14.trans (by rw [nI_clamp (by omega)]; exact eB)
                refine lv_iadd (pc := 122) hx hb dX12_gossips_122 ?_
                refine lv_topi (fun uv15 euv15 => ?_)
                obtain rfl : uv15 = nI (7 * dn + eb) := euv15.trans (nI_add _ _)
                refine r_iald X hW 6 rfl (vp_in_nI (by omega) (by decide)) dX12_gossips_123 ?_
                refine lv_topi (fun uv16 euv16 => ?_)
                obtain rfl : uv16 = G (7 * dn + eb) := euv16.trans (by rw [nI_clamp (by omega)]; exact hG2 _ (by omega))
                refine lv_ior (pc := 124) hx hb dX12_gossips_124 ?_
                refine lv_topi (fun uv17 euv17 => ?_)
                obtain rfl : uv17 = G (7 * dn + ea) ||| G (7 * dn + eb) := euv17.trans (rfl)
                refine lv_istore (lv' := [(8, .int (G (7 * dn + ea) ||| G (7 * dn + eb))), (7, .int (nI (12 * v + i))), (0, .ref h0), (1, .int (nI v)), (2, .int (nI dn)), (3, .int 4), (4, .int (nI (7 * dn))), (5, .int 0), (6, .int (nI i))]) (pc := 125) hx hb dX12_gossips_125 hl (by decide) rfl (fun ls hl => ?_)
                refine lv_aload_n (pc := 127) hx hb dX12_gossips_127 rfl (lv_at hl 2 rfl) ?_
                refine r_get X hW 0 ciX12 48 rfl (by decide) m_1275 rfl rfl dX12_gossips_128 ?_
                refine lv_iload (pc := 131) hx hb dX12_gossips_131 (lv_at hl 8 rfl) ?_
                refine r_zald X hW 5 rfl (vp_in_nI (by omega) (by decide)) dX12_gossips_133 ?_
                refine lv_topi (fun uv18 euv18 => ?_)
                obtain rfl : uv18 = lw i := euv18.trans (by rw [nI_clamp (by omega)])
                refine lv_if_eq (tgt := 276) (pc := 134) hx hb dX12_gossips_134 rfl (fun c19 => ?_) (fun c19 => ?_)
                · refine lv_iinc (v := nI (i + 1)) (lv' := [(6, .int (nI (i + 1))), (8, .int (G (7 * dn + ea) ||| G (7 * dn + eb))), (7, .int (nI (12 * v + i))), (0, .ref h0), (1, .int (nI v)), (2, .int (nI dn)), (3, .int 4), (4, .int (nI (7 * dn))), (5, .int 0)]) (pc := 276) hx hb dX12_gossips_276 hl (k := 8) rfl ((nI_succ i).symm) (by decide) rfl (fun ls hl => ?_)
                  refine lv_goto (tgt := 74) (pc := 279) hx hb dX12_gossips_279 rfl ?_
                  have hW : WD g A s _ _ [(h0, .inr (12, [.int i0, .ref b1, .int i2, .int i3, .int i4, .int i5, .ref b6, .ref b7, .ref b8, .ref b9, .ref b10, .ref b11, .ref b12, .ref b13, .ref b14, .ref b15, .ref b16, .ref b17, .int i18, .int i19, .int i20, .ref b21, .ref b22, .ref b23, .ref b24, .ref b25, .ref b26, .int i27, .ref b28, .ref b29, .ref b30, .ref b31, .ref b32, .ref b33, .ref b34, .ref b35, .ref b36, .int i37, .int i38, .int i39, .int i40, .int i41, .int i42, .int i43, .int i44, .int i45, .ref b46, .ref b47, .ref b48, .ref b49, .ref b50, .ref b51, .ref b52, .ref b53, .ref b54, .ref b55, .ref b56, .ref b57, .ref b58, .ref b59, .ref b60, .ref b61, .ref b62, .ref b63])), (b6, .inl (g.2.1 1, 11, .inl P)), (b7, .inl (g.2.1 1, 11, .inl Lc)), (b12, .inl (g.2.1 1, 132, .inl La)), (b13, .inl (g.2.1 1, 132, .inl Lb)), (b48, .inl (g.2.1 3, 12, .inl lw)), (b46, .inl (g.2.1 1, 112, .inl G2)), (b47, .inl (g.2.1 1, 16, .inl gr))] := hW.pick [0, 1, 2, 3, 4, 5, 6, 7] rfl rfl
                  exact ih2 (i + 1) G2 gr (by omega) (by omega) (hG2) hgr (gno_s hno (by omega) hea heb eA eB (fun ha9 hb9 hw9 hu9 => absurd c19 hw9)) _ _ _ hW (lv_sub hl [3, 4, 5, 6, 7, 8, 0] rfl)
                · have hw_i := c19
                  refine lv_aload_n (pc := 137) hx hb dX12_gossips_137 rfl (lv_at hl 2 rfl) ?_
                  refine r_get X hW 0 ciX12 46 rfl (by decide) m_1273 rfl rfl dX12_gossips_138 ?_
                  refine lv_iload (pc := 141) hx hb dX12_gossips_141 (lv_at hl 6 rfl) ?_
                  refine lv_aload_n (pc := 143) hx hb dX12_gossips_143 rfl (lv_at hl 2 rfl) ?_
                  refine r_get X hW 0 ciX12 12 rfl (by decide) m_1243 rfl rfl dX12_gossips_144 ?_
                  refine lv_iload (pc := 147) hx hb dX12_gossips_147 (lv_at hl 1 rfl) ?_
                  refine r_iald X hW 3 rfl (vp_in_nI (by omega) (by decide)) dX12_gossips_149 ?_
                  refine lv_topi (fun uv20 euv20 => ?_)
                  obtain rfl : uv20 = nI ea := euv20.trans (by rw [nI_clamp (by omega)]; exact eA)
                  refine lv_iadd (pc := 150) hx hb dX12_gossips_150 ?_
                  refine lv_topi (fun uv21 euv21 => ?_)
                  obtain rfl : uv21 = nI (7 * dn + ea) := euv21.trans (nI_add _ _)
                  refine r_iald X hW 6 rfl (vp_in_nI (by omega) (by decide)) dX12_gossips_151 ?_
                  refine lv_topi (fun uv22 euv22 => ?_)
                  obtain rfl : uv22 = G (7 * dn + ea) := euv22.trans (by rw [nI_clamp (by omega)]; exact hG2 _ (by omega))
                  refine lv_iload (pc := 152) hx hb dX12_gossips_152 (lv_at hl 0 rfl) ?_
                  refine lv_icmp_ne (tgt := 180) (pc := 154) hx hb dX12_gossips_154 rfl (fun c23 => ?_) (fun c23 => ?_)
                  · refine lv_iconst (v := 0) (pc := 180) hx hb dX12_gossips_180 (by decide) ?_
                    refine lv_istore (lv' := [(9, .int 0), (8, .int (G (7 * dn + ea) ||| G (7 * dn + eb))), (7, .int (nI (12 * v + i))), (0, .ref h0), (1, .int (nI v)), (2, .int (nI dn)), (3, .int 4), (4, .int (nI (7 * dn))), (5, .int 0), (6, .int (nI i))]) (pc := 181) hx hb dX12_gossips_181 hl (by decide) rfl (fun ls hl => ?_)
                    have loop3 : ∀ (fx : Nat) (y : Nat) (G3 : Nat → Int32), (pp < fx + y) → (y ≤ pp) → (∀ x : Nat, x < 7 * (dn + 1) → G3 x = G x) → (∀ z : Nat, z < y → G3 (7 * dn + 7 + z) = gaft (rwt G dn) ea eb z) → ∀ (H : Heap) (locs : List Loc) (ls : Array Slot), WD g A s H locs [(h0, .inr (12, [.int i0, .ref b1, .int i2, .int i3, .int i4, .int i5, .ref b6, .ref b7, .ref b8, .ref b9, .ref b10, .ref b11, .ref b12, .ref b13, .ref b14, .ref b15, .ref b16, .ref b17, .int i18, .int i19, .int i20, .ref b21, .ref b22, .ref b23, .ref b24, .ref b25, .ref b26, .int i27, .ref b28, .ref b29, .ref b30, .ref b31, .ref b32, .ref b33, .ref b34, .ref b35, .ref b36, .int i37, .int i38, .int i39, .int i40, .int i41, .int i42, .int i43, .int i44, .int i45, .ref b46, .ref b47, .ref b48, .ref b49, .ref b50, .ref b51, .ref b52, .ref b53, .ref b54, .ref b55, .ref b56, .ref b57, .ref b58, .ref b59, .ref b60, .ref b61, .ref b62, .ref b63])), (b6, .inl (g.2.1 1, 11, .inl P)), (b7, .inl (g.2.1 1, 11, .inl Lc)), (b12, .inl (g.2.1 1, 132, .inl La)), (b13, .inl (g.2.1 1, 132, .inl Lb)), (b48, .inl (g.2.1 3, 12, .inl lw)), (b46, .inl (g.2.1 1, 112, .inl G3)), (b47, .inl (g.2.1 1, 16, .inl gr))] → lv_has ls 10 [(0, .ref h0), (1, .int (nI v)), (2, .int (nI dn)), (3, .int 4), (4, .int (nI (7 * dn))), (5, .int 0), (6, .int (nI i)), (7, .int (nI (12 * v + i))), (8, .int (G (7 * dn + ea) ||| G (7 * dn + eb))), (9, .int (nI y))] → W p l e (RM 5 0 0) s m args below meth c H locs 0 0 Q (F0 m 183 ls []) := by
                      intro fx
                      induction fx with
                      | zero =>
                        intro y G3 hm3 hy hG3 hC
                        exact absurd hm3 (by omega)
                      | succ fx ih3 =>
                        intro y G3 hm3 hy hG3 hC H locs ls hW hl
                        refine lv_iload (pc := 183) hx hb dX12_gossips_183 (lv_at hl 9 rfl) ?_
                        refine lv_aload_n (pc := 185) hx hb dX12_gossips_185 rfl (lv_at hl 0 rfl) ?_
                        refine r_get X hW 0 ciX12 6 rfl (by decide) m_1237 rfl rfl dX12_gossips_186 ?_
                        refine lv_iload_n (pc := 189) hx hb dX12_gossips_189 rfl (lv_at hl 1 rfl) ?_
                        refine r_iald X hW 1 rfl (vp_in_nI (by omega) (by decide)) dX12_gossips_190 ?_
                        refine lv_topi (fun uv24 euv24 => ?_)
                        obtain rfl : uv24 = nI pp := euv24.trans (by rw [nI_clamp (by omega)]; exact hP)
                        refine lv_icmp_ge (tgt := 252) (pc := 191) hx hb dX12_gossips_191 rfl (fun c25 => ?_) (fun c25 => ?_)
                        · have hyk : y = pp := Nat.le_antisymm hy (ge_t (by omega) (by omega) c25)
                          rw [hyk] at hC
                          refine lv_aload_n (pc := 252) hx hb dX12_gossips_252 rfl (lv_at hl 0 rfl) ?_
                          refine r_get X hW 0 ciX12 47 rfl (by decide) m_1274 rfl rfl dX12_gossips_253 ?_
                          refine lv_iload_n (pc := 256) hx hb dX12_gossips_256 rfl (lv_at hl 2 rfl) ?_
                          refine lv_iload (pc := 257) hx hb dX12_gossips_257 (lv_at hl 6 rfl) ?_
                          obtain ⟨f26, ef26⟩ : ∃ fz : Nat → Int32, upd gr (nI dn).toNatClampNeg (nI i) = fz := ⟨_, rfl⟩
                          refine r_iast (ws' := [(h0, .inr (12, [.int i0, .ref b1, .int i2, .int i3, .int i4, .int i5, .ref b6, .ref b7, .ref b8, .ref b9, .ref b10, .ref b11, .ref b12, .ref b13, .ref b14, .ref b15, .ref b16, .ref b17, .int i18, .int i19, .int i20, .ref b21, .ref b22, .ref b23, .ref b24, .ref b25, .ref b26, .int i27, .ref b28, .ref b29, .ref b30, .ref b31, .ref b32, .ref b33, .ref b34, .ref b35, .ref b36, .int i37, .int i38, .int i39, .int i40, .int i41, .int i42, .int i43, .int i44, .int i45, .ref b46, .ref b47, .ref b48, .ref b49, .ref b50, .ref b51, .ref b52, .ref b53, .ref b54, .ref b55, .ref b56, .ref b57, .ref b58, .ref b59, .ref b60, .ref b61, .ref b62, .ref b63])), (b6, .inl (g.2.1 1, 11, .inl P)), (b7, .inl (g.2.1 1, 11, .inl Lc)), (b12, .inl (g.2.1 1, 132, .inl La)), (b13, .inl (g.2.1 1, 132, .inl Lb)), (b48, .inl (g.2.1 3, 12, .inl lw)), (b46, .inl (g.2.1 1, 112, .inl G3)), (b47, .inl (g.2.1 1, 16, .inl f26))]) X hW 7 rfl (vp_in_nI (by omega) (by decide)) ef26 rfl dX12_gossips_259 (fun H locs hW => ?_)
                          have hg_f26 : gb16 f26 := by rw [← ef26]; exact gb16_upd hgr (by omega)
                          refine lv_aload_n (pc := 260) hx hb dX12_gossips_260 rfl (lv_at hl 0 rfl) ?_
                          refine lv_iload_n (pc := 261) hx hb dX12_gossips_261 rfl (lv_at hl 1 rfl) ?_
                          refine lv_iload_n (pc := 262) hx hb dX12_gossips_262 rfl (lv_at hl 2 rfl) ?_
                          refine lv_iconst (v := 1) (pc := 263) hx hb dX12_gossips_263 (by decide) ?_
                          refine lv_iadd (pc := 264) hx hb dX12_gossips_264 ?_
                          refine lv_topi (fun uv27 euv27 => ?_)
                          obtain rfl : uv27 = nI (dn + 1) := euv27.trans (nI_1 _)
                          refine lv_iload_n (pc := 265) hx hb dX12_gossips_265 rfl (lv_at hl 3 rfl) ?_
                          refine lv_iconst (v := 1) (pc := 266) hx hb dX12_gossips_266 (by decide) ?_
                          refine lv_isub (pc := 267) hx hb dX12_gossips_267 ?_
                          refine lv_topi (fun uv28 euv28 => ?_)
                          obtain rfl : uv28 = 3 := euv28.trans (by decide +kernel)
                          refine c_Vi (pc := 268) (As := [.int (nI v), .int (nI (dn + 1)), .int 3]) (rest := []) (wr := []) X hW 0 ciX12 rfl (C_X12_gossips_3 l g h0 b1 b6 b7 b8 b9 b10 b11 b12 b13 b14 b15 b16 b17 b21 b22 b23 b24 b25 b26 b28 b29 b30 b31 b32 b33 b34 b35 b36 b46 b47 b48 b49 b50 b51 b52 b53 b54 b55 b56 b57 b58 b59 b60 b61 b62 b63 i0 i2 i3 i4 i5 i18 i19 i20 i27 i37 i38 i39 i40 i41 i42 i43 i44 i45 P Lc La Lb lw G3 f26 v lc pp (dn + 1) hv hlc hpp hP hLc hLA hLB hg_f26 (by omega)) vX12_346 [0, 1, 2, 3, 4, 5, 6, 7] [] rfl rfl rfl rfl rfl rfl hl.1 rfl (Nat.le_of_ble_eq_true rfl) ⟨Nat.le_of_ble_eq_true rfl, Nat.le_of_ble_eq_true rfl⟩ ⟨Nat.le_of_ble_eq_true rfl, Nat.le_of_ble_eq_true rfl⟩ dX12_gossips_268 (fun r31 u9 H locs hq hW => ?_)
                          obtain ⟨gq29, gw30, -, hq1_gq29, hq2_gq29, hgw30, rfl⟩ := hq
                          have hW : WD g A s _ _ [(h0, .inr (12, [.int i0, .ref b1, .int i2, .int i3, .int i4, .int i5, .ref b6, .ref b7, .ref b8, .ref b9, .ref b10, .ref b11, .ref b12, .ref b13, .ref b14, .ref b15, .ref b16, .ref b17, .int i18, .int i19, .int i20, .ref b21, .ref b22, .ref b23, .ref b24, .ref b25, .ref b26, .int i27, .ref b28, .ref b29, .ref b30, .ref b31, .ref b32, .ref b33, .ref b34, .ref b35, .ref b36, .int i37, .int i38, .int i39, .int i40, .int i41, .int i42, .int i43, .int i44, .int i45, .ref b46, .ref b47, .ref b48, .ref b49, .ref b50, .ref b51, .ref b52, .ref b53, .ref b54, .ref b55, .ref b56, .ref b57, .ref b58, .ref b59, .ref b60, .ref b61, .ref b62, .ref b63])), (b6, .inl (g.2.1 1, 11, .inl P)), (b7, .inl (g.2.1 1, 11, .inl Lc)), (b12, .inl (g.2.1 1, 132, .inl La)), (b13, .inl (g.2.1 1, 132, .inl Lb)), (b48, .inl (g.2.1 3, 12, .inl lw)), (b46, .inl (g.2.1 1, 112, .inl gq29)), (b47, .inl (g.2.1 1, 16, .inl gw30))] := hW
                          refine lv_if_eq (tgt := 276) (pc := 271) hx hb dX12_gossips_271 rfl (fun c32 => ?_) (fun c32 => ?_)
                          · refine lv_iinc (v := nI (i + 1)) (lv' := [(6, .int (nI (i + 1))), (0, .ref h0), (1, .int (nI v)), (2, .int (nI dn)), (3, .int 4), (4, .int (nI (7 * dn))), (5, .int 0), (7, .int (nI (12 * v + i))), (8, .int (G (7 * dn + ea) ||| G (7 * dn + eb))), (9, .int (nI y))]) (pc := 276) hx hb dX12_gossips_276 hl (k := 6) rfl ((nI_succ i).symm) (by decide) rfl (fun ls hl => ?_)
                            refine lv_goto (tgt := 74) (pc := 279) hx hb dX12_gossips_279 rfl ?_
                            have hW : WD g A s _ _ [(h0, .inr (12, [.int i0, .ref b1, .int i2, .int i3, .int i4, .int i5, .ref b6, .ref b7, .ref b8, .ref b9, .ref b10, .ref b11, .ref b12, .ref b13, .ref b14, .ref b15, .ref b16, .ref b17, .int i18, .int i19, .int i20, .ref b21, .ref b22, .ref b23, .ref b24, .ref b25, .ref b26, .int i27, .ref b28, .ref b29, .ref b30, .ref b31, .ref b32, .ref b33, .ref b34, .ref b35, .ref b36, .int i37, .int i38, .int i39, .int i40, .int i41, .int i42, .int i43, .int i44, .int i45, .ref b46, .ref b47, .ref b48, .ref b49, .ref b50, .ref b51, .ref b52, .ref b53, .ref b54, .ref b55, .ref b56, .ref b57, .ref b58, .ref b59, .ref b60, .ref b61, .ref b62, .ref b63])), (b6, .inl (g.2.1 1, 11, .inl P)), (b7, .inl (g.2.1 1, 11, .inl Lc)), (b12, .inl (g.2.1 1, 132, .inl La)), (b13, .inl (g.2.1 1, 132, .inl Lb)), (b48, .inl (g.2.1 3, 12, .inl lw)), (b46, .inl (g.2.1 1, 112, .inl gq29)), (b47, .inl (g.2.1 1, 16, .inl gw30))] := hW.pick [0, 1, 2, 3, 4, 5, 6, 7] rfl rfl
                            exact ih2 (i + 1) gq29 gw30 (by omega) (by omega) (fun x hx => (hq2_gq29 x (by omega)).trans (hG3 x hx)) hgw30 (gno_s hno (by omega) hea heb eA eB (fun ha9 hb9 hw9 hu9 => fun hg9 => absurd (hq1_gq29 (gok_cong hg9 (fun o ho => (hC o ho).symm))) (by rw [c32]; decide))) _ _ _ hW (lv_sub hl [1, 2, 3, 4, 5, 6, 0] rfl)
                          · refine lv_iconst (v := 1) (pc := 274) hx hb dX12_gossips_274 (by decide) ?_
                            exact e_z X hQ hr hW (u := [(h0, .inr (12, [.int i0, .ref b1, .int i2, .int i3, .int i4, .int i5, .ref b6, .ref b7, .ref b8, .ref b9, .ref b10, .ref b11, .ref b12, .ref b13, .ref b14, .ref b15, .ref b16, .ref b17, .int i18, .int i19, .int i20, .ref b21, .ref b22, .ref b23, .ref b24, .ref b25, .ref b26, .int i27, .ref b28, .ref b29, .ref b30, .ref b31, .ref b32, .ref b33, .ref b34, .ref b35, .ref b36, .int i37, .int i38, .int i39, .int i40, .int i41, .int i42, .int i43, .int i44, .int i45, .ref b46, .ref b47, .ref b48, .ref b49, .ref b50, .ref b51, .ref b52, .ref b53, .ref b54, .ref b55, .ref b56, .ref b57, .ref b58, .ref b59, .ref b60, .ref b61, .ref b62, .ref b63])), (b6, .inl (g.2.1 1, 11, .inl P)), (b7, .inl (g.2.1 1, 11, .inl Lc)), (b12, .inl (g.2.1 1, 132, .inl La)), (b13, .inl (g.2.1 1, 132, .inl Lb)), (b48, .inl (g.2.1 3, 12, .inl lw)), (b46, .inl (g.2.1 1, 112, .inl gq29)), (b47, .inl (g.2.1 1, 16, .inl gw30))]) rfl [0, 1, 2, 3, 4, 5, 6, 7] rfl rfl (⟨_, _, Or.inr rfl, fun _ => rfl, fun x hx => (hq2_gq29 x (by omega)).trans (hG3 x hx), hgw30, rfl⟩) ⟨Nat.le_of_ble_eq_true rfl, Nat.le_of_ble_eq_true rfl⟩ dX12_gossips_275
                        · have hyl : y < pp := ge_f (by omega) (by omega) c25
                          refine lv_aload_n (pc := 194) hx hb dX12_gossips_194 rfl (lv_at hl 0 rfl) ?_
                          refine r_get X hW 0 ciX12 46 rfl (by decide) m_1273 rfl rfl dX12_gossips_195 ?_
                          refine lv_iload (pc := 198) hx hb dX12_gossips_198 (lv_at hl 4 rfl) ?_
                          refine lv_bipush (v := 7) (pc := 200) hx hb dX12_gossips_200 (by decide) ?_
                          refine lv_iadd (pc := 202) hx hb dX12_gossips_202 ?_
                          refine lv_topi (fun uv33 euv33 => ?_)
                          obtain rfl : uv33 = nI (7 * dn + 7) := euv33.trans (nI_add _ _)
                          refine lv_iload (pc := 203) hx hb dX12_gossips_203 (lv_at hl 9 rfl) ?_
                          refine lv_iadd (pc := 205) hx hb dX12_gossips_205 ?_
                          refine lv_topi (fun uv34 euv34 => ?_)
                          obtain rfl : uv34 = nI (7 * dn + 7 + y) := euv34.trans (nI_add _ _)
                          refine lv_iload (pc := 206) hx hb dX12_gossips_206 (lv_at hl 9 rfl) ?_
                          refine lv_aload_n (pc := 208) hx hb dX12_gossips_208 rfl (lv_at hl 0 rfl) ?_
                          refine r_get X hW 0 ciX12 12 rfl (by decide) m_1243 rfl rfl dX12_gossips_209 ?_
                          refine lv_iload (pc := 212) hx hb dX12_gossips_212 (lv_at hl 7 rfl) ?_
                          refine r_iald X hW 3 rfl (vp_in_nI (by omega) (by decide)) dX12_gossips_214 ?_
                          refine lv_topi (fun uv35 euv35 => ?_)
                          obtain rfl : uv35 = nI ea := euv35.trans (by rw [nI_clamp (by omega)]; exact eA)
                          refine lv_icmp_eq (tgt := 230) (pc := 215) hx hb dX12_gossips_215 rfl (fun c36 => ?_) (fun c36 => ?_)
                          · refine lv_iload (pc := 230) hx hb dX12_gossips_230 (lv_at hl 8 rfl) ?_
                            refine lv_goto (tgt := 245) (pc := 232) hx hb dX12_gossips_232 rfl ?_
                            obtain ⟨f37, ef37⟩ : ∃ fz : Nat → Int32, upd G3 (nI (7 * dn + 7 + y)).toNatClampNeg (G (7 * dn + ea) ||| G (7 * dn + eb)) = fz := ⟨_, rfl⟩
                            refine r_iast (ws' := [(h0, .inr (12, [.int i0, .ref b1, .int i2, .int i3, .int i4, .int i5, .ref b6, .ref b7, .ref b8, .ref b9, .ref b10, .ref b11, .ref b12, .ref b13, .ref b14, .ref b15, .ref b16, .ref b17, .int i18, .int i19, .int i20, .ref b21, .ref b22, .ref b23, .ref b24, .ref b25, .ref b26, .int i27, .ref b28, .ref b29, .ref b30, .ref b31, .ref b32, .ref b33, .ref b34, .ref b35, .ref b36, .int i37, .int i38, .int i39, .int i40, .int i41, .int i42, .int i43, .int i44, .int i45, .ref b46, .ref b47, .ref b48, .ref b49, .ref b50, .ref b51, .ref b52, .ref b53, .ref b54, .ref b55, .ref b56, .ref b57, .ref b58, .ref b59, .ref b60, .ref b61, .ref b62, .ref b63])), (b6, .inl (g.2.1 1, 11, .inl P)), (b7, .inl (g.2.1 1, 11, .inl Lc)), (b12, .inl (g.2.1 1, 132, .inl La)), (b13, .inl (g.2.1 1, 132, .inl Lb)), (b48, .inl (g.2.1 3, 12, .inl lw)), (b46, .inl (g.2.1 1, 112, .inl f37)), (b47, .inl (g.2.1 1, 16, .inl gr))]) X hW 6 rfl (vp_in_nI (by omega) (by decide)) ef37 rfl dX12_gossips_245 (fun H locs hW => ?_)
                            refine lv_iinc (v := nI (y + 1)) (lv' := [(9, .int (nI (y + 1))), (0, .ref h0), (1, .int (nI v)), (2, .int (nI dn)), (3, .int 4), (4, .int (nI (7 * dn))), (5, .int 0), (6, .int (nI i)), (7, .int (nI (12 * v + i))), (8, .int (G (7 * dn + ea) ||| G (7 * dn + eb)))]) (pc := 246) hx hb dX12_gossips_246 hl (k := 9) rfl ((nI_succ y).symm) (by decide) rfl (fun ls hl => ?_)
                            refine lv_goto (tgt := 183) (pc := 249) hx hb dX12_gossips_249 rfl ?_
                            have hW : WD g A s _ _ [(h0, .inr (12, [.int i0, .ref b1, .int i2, .int i3, .int i4, .int i5, .ref b6, .ref b7, .ref b8, .ref b9, .ref b10, .ref b11, .ref b12, .ref b13, .ref b14, .ref b15, .ref b16, .ref b17, .int i18, .int i19, .int i20, .ref b21, .ref b22, .ref b23, .ref b24, .ref b25, .ref b26, .int i27, .ref b28, .ref b29, .ref b30, .ref b31, .ref b32, .ref b33, .ref b34, .ref b35, .ref b36, .int i37, .int i38, .int i39, .int i40, .int i41, .int i42, .int i43, .int i44, .int i45, .ref b46, .ref b47, .ref b48, .ref b49, .ref b50, .ref b51, .ref b52, .ref b53, .ref b54, .ref b55, .ref b56, .ref b57, .ref b58, .ref b59, .ref b60, .ref b61, .ref b62, .ref b63])), (b6, .inl (g.2.1 1, 11, .inl P)), (b7, .inl (g.2.1 1, 11, .inl Lc)), (b12, .inl (g.2.1 1, 132, .inl La)), (b13, .inl (g.2.1 1, 132, .inl Lb)), (b48, .inl (g.2.1 3, 12, .inl lw)), (b46, .inl (g.2.1 1, 112, .inl f37)), (b47, .inl (g.2.1 1, 16, .inl gr))] := hW.pick [0, 1, 2, 3, 4, 5, 6, 7] rfl rfl
                            exact ih3 (y + 1) f37 (by omega) (by omega) (fun x hx => by
                                rw [← ef37, nI_clamp (by omega)]
                                simp only [upd, show ¬ x = 7 * dn + 7 + y by omega, if_false]
                                exact hG3 x hx) (fun z hz => by
                                rw [← ef37, nI_clamp (by omega)]
                                by_cases e9 : z = y
                                · subst e9; simp only [upd, if_true]; rw [gaft, if_pos (Or.inl (nI_inj6 (by omega) (by omega) c36))]; rfl
                                · simp only [upd, show ¬ 7 * dn + 7 + z = 7 * dn + 7 + y by omega, if_false]; exact hC z (by omega)) _ _ _ hW (lv_sub hl [1, 2, 3, 4, 5, 6, 7, 8, 9, 0] rfl)
                          · refine lv_iload (pc := 218) hx hb dX12_gossips_218 (lv_at hl 9 rfl) ?_
                            refine lv_aload_n (pc := 220) hx hb dX12_gossips_220 rfl (lv_at hl 0 rfl) ?_
                            refine r_get X hW 0 ciX12 13 rfl (by decide) m_1244 rfl rfl dX12_gossips_221 ?_
                            refine lv_iload (pc := 224) hx hb dX12_gossips_224 (lv_at hl 7 rfl) ?_
                            refine r_iald X hW 4 rfl (vp_in_nI (by omega) (by decide)) dX12_gossips_226 ?_
                            refine lv_topi (fun uv38 euv38 => ?_)
                            obtain rfl : uv38 = nI eb := euv38.trans (by rw [nI_clamp (by omega)]; exact eB)
                            refine lv_icmp_ne (tgt := 235) (pc := 227) hx hb dX12_gossips_227 rfl (fun c39 => ?_) (fun c39 => ?_)
                            · refine lv_aload_n (pc := 235) hx hb dX12_gossips_235 rfl (lv_at hl 0 rfl) ?_
                              refine r_get X hW 0 ciX12 46 rfl (by decide) m_1273 rfl rfl dX12_gossips_236 ?_
                              refine lv_iload (pc := 239) hx hb dX12_gossips_239 (lv_at hl 4 rfl) ?_
                              refine lv_iload (pc := 241) hx hb dX12_gossips_241 (lv_at hl 9 rfl) ?_
                              refine lv_iadd (pc := 243) hx hb dX12_gossips_243 ?_
                              refine lv_topi (fun uv40 euv40 => ?_)
                              obtain rfl : uv40 = nI (7 * dn + y) := euv40.trans (nI_add _ _)
                              refine r_iald X hW 6 rfl (vp_in_nI (by omega) (by decide)) dX12_gossips_244 ?_
                              refine lv_topi (fun uv41 euv41 => ?_)
                              obtain rfl : uv41 = G (7 * dn + y) := euv41.trans (by rw [nI_clamp (by omega)]; exact hG3 _ (by omega))
                              obtain ⟨f42, ef42⟩ : ∃ fz : Nat → Int32, upd G3 (nI (7 * dn + 7 + y)).toNatClampNeg (G (7 * dn + y)) = fz := ⟨_, rfl⟩
                              refine r_iast (ws' := [(h0, .inr (12, [.int i0, .ref b1, .int i2, .int i3, .int i4, .int i5, .ref b6, .ref b7, .ref b8, .ref b9, .ref b10, .ref b11, .ref b12, .ref b13, .ref b14, .ref b15, .ref b16, .ref b17, .int i18, .int i19, .int i20, .ref b21, .ref b22, .ref b23, .ref b24, .ref b25, .ref b26, .int i27, .ref b28, .ref b29, .ref b30, .ref b31, .ref b32, .ref b33, .ref b34, .ref b35, .ref b36, .int i37, .int i38, .int i39, .int i40, .int i41, .int i42, .int i43, .int i44, .int i45, .ref b46, .ref b47, .ref b48, .ref b49, .ref b50, .ref b51, .ref b52, .ref b53, .ref b54, .ref b55, .ref b56, .ref b57, .ref b58, .ref b59, .ref b60, .ref b61, .ref b62, .ref b63])), (b6, .inl (g.2.1 1, 11, .inl P)), (b7, .inl (g.2.1 1, 11, .inl Lc)), (b12, .inl (g.2.1 1, 132, .inl La)), (b13, .inl (g.2.1 1, 132, .inl Lb)), (b48, .inl (g.2.1 3, 12, .inl lw)), (b46, .inl (g.2.1 1, 112, .inl f42)), (b47, .inl (g.2.1 1, 16, .inl gr))]) X hW 6 rfl (vp_in_nI (by omega) (by decide)) ef42 rfl dX12_gossips_245 (fun H locs hW => ?_)
                              refine lv_iinc (v := nI (y + 1)) (lv' := [(9, .int (nI (y + 1))), (0, .ref h0), (1, .int (nI v)), (2, .int (nI dn)), (3, .int 4), (4, .int (nI (7 * dn))), (5, .int 0), (6, .int (nI i)), (7, .int (nI (12 * v + i))), (8, .int (G (7 * dn + ea) ||| G (7 * dn + eb)))]) (pc := 246) hx hb dX12_gossips_246 hl (k := 9) rfl ((nI_succ y).symm) (by decide) rfl (fun ls hl => ?_)
                              refine lv_goto (tgt := 183) (pc := 249) hx hb dX12_gossips_249 rfl ?_
                              have hW : WD g A s _ _ [(h0, .inr (12, [.int i0, .ref b1, .int i2, .int i3, .int i4, .int i5, .ref b6, .ref b7, .ref b8, .ref b9, .ref b10, .ref b11, .ref b12, .ref b13, .ref b14, .ref b15, .ref b16, .ref b17, .int i18, .int i19, .int i20, .ref b21, .ref b22, .ref b23, .ref b24, .ref b25, .ref b26, .int i27, .ref b28, .ref b29, .ref b30, .ref b31, .ref b32, .ref b33, .ref b34, .ref b35, .ref b36, .int i37, .int i38, .int i39, .int i40, .int i41, .int i42, .int i43, .int i44, .int i45, .ref b46, .ref b47, .ref b48, .ref b49, .ref b50, .ref b51, .ref b52, .ref b53, .ref b54, .ref b55, .ref b56, .ref b57, .ref b58, .ref b59, .ref b60, .ref b61, .ref b62, .ref b63])), (b6, .inl (g.2.1 1, 11, .inl P)), (b7, .inl (g.2.1 1, 11, .inl Lc)), (b12, .inl (g.2.1 1, 132, .inl La)), (b13, .inl (g.2.1 1, 132, .inl Lb)), (b48, .inl (g.2.1 3, 12, .inl lw)), (b46, .inl (g.2.1 1, 112, .inl f42)), (b47, .inl (g.2.1 1, 16, .inl gr))] := hW.pick [0, 1, 2, 3, 4, 5, 6, 7] rfl rfl
                              exact ih3 (y + 1) f42 (by omega) (by omega) (fun x hx => by
                                  rw [← ef42, nI_clamp (by omega)]
                                  simp only [upd, show ¬ x = 7 * dn + 7 + y by omega, if_false]
                                  exact hG3 x hx) (fun z hz => by
                                  rw [← ef42, nI_clamp (by omega)]
                                  by_cases e9 : z = y
                                  · subst e9; simp only [upd, if_true]; rw [gaft, if_neg (fun q => q.elim (fun r => c36 (congrArg nI r)) (fun r => c39 (congrArg nI r)))]; rfl
                                  · simp only [upd, show ¬ 7 * dn + 7 + z = 7 * dn + 7 + y by omega, if_false]; exact hC z (by omega)) _ _ _ hW (lv_sub hl [1, 2, 3, 4, 5, 6, 7, 8, 9, 0] rfl)
                            · refine lv_iload (pc := 230) hx hb dX12_gossips_230 (lv_at hl 8 rfl) ?_
                              refine lv_goto (tgt := 245) (pc := 232) hx hb dX12_gossips_232 rfl ?_
                              obtain ⟨f43, ef43⟩ : ∃ fz : Nat → Int32, upd G3 (nI (7 * dn + 7 + y)).toNatClampNeg (G (7 * dn + ea) ||| G (7 * dn + eb)) = fz := ⟨_, rfl⟩
                              refine r_iast (ws' := [(h0, .inr (12, [.int i0, .ref b1, .int i2, .int i3, .int i4, .int i5, .ref b6, .ref b7, .ref b8, .ref b9, .ref b10, .ref b11, .ref b12, .ref b13, .ref b14, .ref b15, .ref b16, .ref b17, .int i18, .int i19, .int i20, .ref b21, .ref b22, .ref b23, .ref b24, .ref b25, .ref b26, .int i27, .ref b28, .ref b29, .ref b30, .ref b31, .ref b32, .ref b33, .ref b34, .ref b35, .ref b36, .int i37, .int i38, .int i39, .int i40, .int i41, .int i42, .int i43, .int i44, .int i45, .ref b46, .ref b47, .ref b48, .ref b49, .ref b50, .ref b51, .ref b52, .ref b53, .ref b54, .ref b55, .ref b56, .ref b57, .ref b58, .ref b59, .ref b60, .ref b61, .ref b62, .ref b63])), (b6, .inl (g.2.1 1, 11, .inl P)), (b7, .inl (g.2.1 1, 11, .inl Lc)), (b12, .inl (g.2.1 1, 132, .inl La)), (b13, .inl (g.2.1 1, 132, .inl Lb)), (b48, .inl (g.2.1 3, 12, .inl lw)), (b46, .inl (g.2.1 1, 112, .inl f43)), (b47, .inl (g.2.1 1, 16, .inl gr))]) X hW 6 rfl (vp_in_nI (by omega) (by decide)) ef43 rfl dX12_gossips_245 (fun H locs hW => ?_)
                              refine lv_iinc (v := nI (y + 1)) (lv' := [(9, .int (nI (y + 1))), (0, .ref h0), (1, .int (nI v)), (2, .int (nI dn)), (3, .int 4), (4, .int (nI (7 * dn))), (5, .int 0), (6, .int (nI i)), (7, .int (nI (12 * v + i))), (8, .int (G (7 * dn + ea) ||| G (7 * dn + eb)))]) (pc := 246) hx hb dX12_gossips_246 hl (k := 9) rfl ((nI_succ y).symm) (by decide) rfl (fun ls hl => ?_)
                              refine lv_goto (tgt := 183) (pc := 249) hx hb dX12_gossips_249 rfl ?_
                              have hW : WD g A s _ _ [(h0, .inr (12, [.int i0, .ref b1, .int i2, .int i3, .int i4, .int i5, .ref b6, .ref b7, .ref b8, .ref b9, .ref b10, .ref b11, .ref b12, .ref b13, .ref b14, .ref b15, .ref b16, .ref b17, .int i18, .int i19, .int i20, .ref b21, .ref b22, .ref b23, .ref b24, .ref b25, .ref b26, .int i27, .ref b28, .ref b29, .ref b30, .ref b31, .ref b32, .ref b33, .ref b34, .ref b35, .ref b36, .int i37, .int i38, .int i39, .int i40, .int i41, .int i42, .int i43, .int i44, .int i45, .ref b46, .ref b47, .ref b48, .ref b49, .ref b50, .ref b51, .ref b52, .ref b53, .ref b54, .ref b55, .ref b56, .ref b57, .ref b58, .ref b59, .ref b60, .ref b61, .ref b62, .ref b63])), (b6, .inl (g.2.1 1, 11, .inl P)), (b7, .inl (g.2.1 1, 11, .inl Lc)), (b12, .inl (g.2.1 1, 132, .inl La)), (b13, .inl (g.2.1 1, 132, .inl Lb)), (b48, .inl (g.2.1 3, 12, .inl lw)), (b46, .inl (g.2.1 1, 112, .inl f43)), (b47, .inl (g.2.1 1, 16, .inl gr))] := hW.pick [0, 1, 2, 3, 4, 5, 6, 7] rfl rfl
                              exact ih3 (y + 1) f43 (by omega) (by omega) (fun x hx => by
                                  rw [← ef43, nI_clamp (by omega)]
                                  simp only [upd, show ¬ x = 7 * dn + 7 + y by omega, if_false]
                                  exact hG3 x hx) (fun z hz => by
                                  rw [← ef43, nI_clamp (by omega)]
                                  by_cases e9 : z = y
                                  · subst e9; simp only [upd, if_true]; rw [gaft, if_pos (Or.inr (nI_inj6 (by omega) (by omega) c39))]; rfl
                                  · simp only [upd, show ¬ 7 * dn + 7 + z = 7 * dn + 7 + y by omega, if_false]; exact hC z (by omega)) _ _ _ hW (lv_sub hl [1, 2, 3, 4, 5, 6, 7, 8, 9, 0] rfl)
                    exact loop3 (pp + 1) 0 G2 (by omega) (Nat.zero_le _) hG2 (fun z hz => absurd hz (Nat.not_lt_zero z)) _ _ _ hW (lv_sub hl [3, 4, 5, 6, 7, 8, 9, 2, 1, 0] rfl)
                  · have h_eA := c23
                    refine lv_aload_n (pc := 157) hx hb dX12_gossips_157 rfl (lv_at hl 2 rfl) ?_
                    refine r_get X hW 0 ciX12 46 rfl (by decide) m_1273 rfl rfl dX12_gossips_158 ?_
                    refine lv_iload (pc := 161) hx hb dX12_gossips_161 (lv_at hl 6 rfl) ?_
                    refine lv_aload_n (pc := 163) hx hb dX12_gossips_163 rfl (lv_at hl 2 rfl) ?_
                    refine r_get X hW 0 ciX12 13 rfl (by decide) m_1244 rfl rfl dX12_gossips_164 ?_
                    refine lv_iload (pc := 167) hx hb dX12_gossips_167 (lv_at hl 1 rfl) ?_
                    refine r_iald X hW 4 rfl (vp_in_nI (by omega) (by decide)) dX12_gossips_169 ?_
                    refine lv_topi (fun uv44 euv44 => ?_)
                    obtain rfl : uv44 = nI eb := euv44.trans (by rw [nI_clamp (by omega)]; exact eB)
                    refine lv_iadd (pc := 170) hx hb dX12_gossips_170 ?_
                    refine lv_topi (fun uv45 euv45 => ?_)
                    obtain rfl : uv45 = nI (7 * dn + eb) := euv45.trans (nI_add _ _)
                    refine r_iald X hW 6 rfl (vp_in_nI (by omega) (by decide)) dX12_gossips_171 ?_
                    refine lv_topi (fun uv46 euv46 => ?_)
                    obtain rfl : uv46 = G (7 * dn + eb) := euv46.trans (by rw [nI_clamp (by omega)]; exact hG2 _ (by omega))
                    refine lv_iload (pc := 172) hx hb dX12_gossips_172 (lv_at hl 0 rfl) ?_
                    refine lv_icmp_ne (tgt := 180) (pc := 174) hx hb dX12_gossips_174 rfl (fun c47 => ?_) (fun c47 => ?_)
                    · refine lv_iconst (v := 0) (pc := 180) hx hb dX12_gossips_180 (by decide) ?_
                      refine lv_istore (lv' := [(9, .int 0), (8, .int (G (7 * dn + ea) ||| G (7 * dn + eb))), (7, .int (nI (12 * v + i))), (0, .ref h0), (1, .int (nI v)), (2, .int (nI dn)), (3, .int 4), (4, .int (nI (7 * dn))), (5, .int 0), (6, .int (nI i))]) (pc := 181) hx hb dX12_gossips_181 hl (by decide) rfl (fun ls hl => ?_)
                      have loop3 : ∀ (fx : Nat) (y : Nat) (G3 : Nat → Int32), (pp < fx + y) → (y ≤ pp) → (∀ x : Nat, x < 7 * (dn + 1) → G3 x = G x) → (∀ z : Nat, z < y → G3 (7 * dn + 7 + z) = gaft (rwt G dn) ea eb z) → ∀ (H : Heap) (locs : List Loc) (ls : Array Slot), WD g A s H locs [(h0, .inr (12, [.int i0, .ref b1, .int i2, .int i3, .int i4, .int i5, .ref b6, .ref b7, .ref b8, .ref b9, .ref b10, .ref b11, .ref b12, .ref b13, .ref b14, .ref b15, .ref b16, .ref b17, .int i18, .int i19, .int i20, .ref b21, .ref b22, .ref b23, .ref b24, .ref b25, .ref b26, .int i27, .ref b28, .ref b29, .ref b30, .ref b31, .ref b32, .ref b33, .ref b34, .ref b35, .ref b36, .int i37, .int i38, .int i39, .int i40, .int i41, .int i42, .int i43, .int i44, .int i45, .ref b46, .ref b47, .ref b48, .ref b49, .ref b50, .ref b51, .ref b52, .ref b53, .ref b54, .ref b55, .ref b56, .ref b57, .ref b58, .ref b59, .ref b60, .ref b61, .ref b62, .ref b63])), (b6, .inl (g.2.1 1, 11, .inl P)), (b7, .inl (g.2.1 1, 11, .inl Lc)), (b12, .inl (g.2.1 1, 132, .inl La)), (b13, .inl (g.2.1 1, 132, .inl Lb)), (b48, .inl (g.2.1 3, 12, .inl lw)), (b46, .inl (g.2.1 1, 112, .inl G3)), (b47, .inl (g.2.1 1, 16, .inl gr))] → lv_has ls 10 [(0, .ref h0), (1, .int (nI v)), (2, .int (nI dn)), (3, .int 4), (4, .int (nI (7 * dn))), (5, .int 0), (6, .int (nI i)), (7, .int (nI (12 * v + i))), (8, .int (G (7 * dn + ea) ||| G (7 * dn + eb))), (9, .int (nI y))] → W p l e (RM 5 0 0) s m args below meth c H locs 0 0 Q (F0 m 183 ls []) := by
                        intro fx
                        induction fx with
                        | zero =>
                          intro y G3 hm3 hy hG3 hC
                          exact absurd hm3 (by omega)
                        | succ fx ih3 =>
                          intro y G3 hm3 hy hG3 hC H locs ls hW hl
                          refine lv_iload (pc := 183) hx hb dX12_gossips_183 (lv_at hl 9 rfl) ?_
                          refine lv_aload_n (pc := 185) hx hb dX12_gossips_185 rfl (lv_at hl 0 rfl) ?_
                          refine r_get X hW 0 ciX12 6 rfl (by decide) m_1237 rfl rfl dX12_gossips_186 ?_
                          refine lv_iload_n (pc := 189) hx hb dX12_gossips_189 rfl (lv_at hl 1 rfl) ?_
                          refine r_iald X hW 1 rfl (vp_in_nI (by omega) (by decide)) dX12_gossips_190 ?_
                          refine lv_topi (fun uv48 euv48 => ?_)
                          obtain rfl : uv48 = nI pp := euv48.trans (by rw [nI_clamp (by omega)]; exact hP)
                          refine lv_icmp_ge (tgt := 252) (pc := 191) hx hb dX12_gossips_191 rfl (fun c49 => ?_) (fun c49 => ?_)
                          · have hyk : y = pp := Nat.le_antisymm hy (ge_t (by omega) (by omega) c49)
                            rw [hyk] at hC
                            refine lv_aload_n (pc := 252) hx hb dX12_gossips_252 rfl (lv_at hl 0 rfl) ?_
                            refine r_get X hW 0 ciX12 47 rfl (by decide) m_1274 rfl rfl dX12_gossips_253 ?_
                            refine lv_iload_n (pc := 256) hx hb dX12_gossips_256 rfl (lv_at hl 2 rfl) ?_
                            refine lv_iload (pc := 257) hx hb dX12_gossips_257 (lv_at hl 6 rfl) ?_
                            obtain ⟨f50, ef50⟩ : ∃ fz : Nat → Int32, upd gr (nI dn).toNatClampNeg (nI i) = fz := ⟨_, rfl⟩
                            refine r_iast (ws' := [(h0, .inr (12, [.int i0, .ref b1, .int i2, .int i3, .int i4, .int i5, .ref b6, .ref b7, .ref b8, .ref b9, .ref b10, .ref b11, .ref b12, .ref b13, .ref b14, .ref b15, .ref b16, .ref b17, .int i18, .int i19, .int i20, .ref b21, .ref b22, .ref b23, .ref b24, .ref b25, .ref b26, .int i27, .ref b28, .ref b29, .ref b30, .ref b31, .ref b32, .ref b33, .ref b34, .ref b35, .ref b36, .int i37, .int i38, .int i39, .int i40, .int i41, .int i42, .int i43, .int i44, .int i45, .ref b46, .ref b47, .ref b48, .ref b49, .ref b50, .ref b51, .ref b52, .ref b53, .ref b54, .ref b55, .ref b56, .ref b57, .ref b58, .ref b59, .ref b60, .ref b61, .ref b62, .ref b63])), (b6, .inl (g.2.1 1, 11, .inl P)), (b7, .inl (g.2.1 1, 11, .inl Lc)), (b12, .inl (g.2.1 1, 132, .inl La)), (b13, .inl (g.2.1 1, 132, .inl Lb)), (b48, .inl (g.2.1 3, 12, .inl lw)), (b46, .inl (g.2.1 1, 112, .inl G3)), (b47, .inl (g.2.1 1, 16, .inl f50))]) X hW 7 rfl (vp_in_nI (by omega) (by decide)) ef50 rfl dX12_gossips_259 (fun H locs hW => ?_)
                            have hg_f50 : gb16 f50 := by rw [← ef50]; exact gb16_upd hgr (by omega)
                            refine lv_aload_n (pc := 260) hx hb dX12_gossips_260 rfl (lv_at hl 0 rfl) ?_
                            refine lv_iload_n (pc := 261) hx hb dX12_gossips_261 rfl (lv_at hl 1 rfl) ?_
                            refine lv_iload_n (pc := 262) hx hb dX12_gossips_262 rfl (lv_at hl 2 rfl) ?_
                            refine lv_iconst (v := 1) (pc := 263) hx hb dX12_gossips_263 (by decide) ?_
                            refine lv_iadd (pc := 264) hx hb dX12_gossips_264 ?_
                            refine lv_topi (fun uv51 euv51 => ?_)
                            obtain rfl : uv51 = nI (dn + 1) := euv51.trans (nI_1 _)
                            refine lv_iload_n (pc := 265) hx hb dX12_gossips_265 rfl (lv_at hl 3 rfl) ?_
                            refine lv_iconst (v := 1) (pc := 266) hx hb dX12_gossips_266 (by decide) ?_
                            refine lv_isub (pc := 267) hx hb dX12_gossips_267 ?_
                            refine lv_topi (fun uv52 euv52 => ?_)
                            obtain rfl : uv52 = 3 := euv52.trans (by decide +kernel)
                            refine c_Vi (pc := 268) (As := [.int (nI v), .int (nI (dn + 1)), .int 3]) (rest := []) (wr := []) X hW 0 ciX12 rfl (C_X12_gossips_3 l g h0 b1 b6 b7 b8 b9 b10 b11 b12 b13 b14 b15 b16 b17 b21 b22 b23 b24 b25 b26 b28 b29 b30 b31 b32 b33 b34 b35 b36 b46 b47 b48 b49 b50 b51 b52 b53 b54 b55 b56 b57 b58 b59 b60 b61 b62 b63 i0 i2 i3 i4 i5 i18 i19 i20 i27 i37 i38 i39 i40 i41 i42 i43 i44 i45 P Lc La Lb lw G3 f50 v lc pp (dn + 1) hv hlc hpp hP hLc hLA hLB hg_f50 (by omega)) vX12_346 [0, 1, 2, 3, 4, 5, 6, 7] [] rfl rfl rfl rfl rfl rfl hl.1 rfl (Nat.le_of_ble_eq_true rfl) ⟨Nat.le_of_ble_eq_true rfl, Nat.le_of_ble_eq_true rfl⟩ ⟨Nat.le_of_ble_eq_true rfl, Nat.le_of_ble_eq_true rfl⟩ dX12_gossips_268 (fun r55 u9 H locs hq hW => ?_)
                            obtain ⟨gq53, gw54, -, hq1_gq53, hq2_gq53, hgw54, rfl⟩ := hq
                            have hW : WD g A s _ _ [(h0, .inr (12, [.int i0, .ref b1, .int i2, .int i3, .int i4, .int i5, .ref b6, .ref b7, .ref b8, .ref b9, .ref b10, .ref b11, .ref b12, .ref b13, .ref b14, .ref b15, .ref b16, .ref b17, .int i18, .int i19, .int i20, .ref b21, .ref b22, .ref b23, .ref b24, .ref b25, .ref b26, .int i27, .ref b28, .ref b29, .ref b30, .ref b31, .ref b32, .ref b33, .ref b34, .ref b35, .ref b36, .int i37, .int i38, .int i39, .int i40, .int i41, .int i42, .int i43, .int i44, .int i45, .ref b46, .ref b47, .ref b48, .ref b49, .ref b50, .ref b51, .ref b52, .ref b53, .ref b54, .ref b55, .ref b56, .ref b57, .ref b58, .ref b59, .ref b60, .ref b61, .ref b62, .ref b63])), (b6, .inl (g.2.1 1, 11, .inl P)), (b7, .inl (g.2.1 1, 11, .inl Lc)), (b12, .inl (g.2.1 1, 132, .inl La)), (b13, .inl (g.2.1 1, 132, .inl Lb)), (b48, .inl (g.2.1 3, 12, .inl lw)), (b46, .inl (g.2.1 1, 112, .inl gq53)), (b47, .inl (g.2.1 1, 16, .inl gw54))] := hW
                            refine lv_if_eq (tgt := 276) (pc := 271) hx hb dX12_gossips_271 rfl (fun c56 => ?_) (fun c56 => ?_)
                            · refine lv_iinc (v := nI (i + 1)) (lv' := [(6, .int (nI (i + 1))), (0, .ref h0), (1, .int (nI v)), (2, .int (nI dn)), (3, .int 4), (4, .int (nI (7 * dn))), (5, .int 0), (7, .int (nI (12 * v + i))), (8, .int (G (7 * dn + ea) ||| G (7 * dn + eb))), (9, .int (nI y))]) (pc := 276) hx hb dX12_gossips_276 hl (k := 6) rfl ((nI_succ i).symm) (by decide) rfl (fun ls hl => ?_)
                              refine lv_goto (tgt := 74) (pc := 279) hx hb dX12_gossips_279 rfl ?_
                              have hW : WD g A s _ _ [(h0, .inr (12, [.int i0, .ref b1, .int i2, .int i3, .int i4, .int i5, .ref b6, .ref b7, .ref b8, .ref b9, .ref b10, .ref b11, .ref b12, .ref b13, .ref b14, .ref b15, .ref b16, .ref b17, .int i18, .int i19, .int i20, .ref b21, .ref b22, .ref b23, .ref b24, .ref b25, .ref b26, .int i27, .ref b28, .ref b29, .ref b30, .ref b31, .ref b32, .ref b33, .ref b34, .ref b35, .ref b36, .int i37, .int i38, .int i39, .int i40, .int i41, .int i42, .int i43, .int i44, .int i45, .ref b46, .ref b47, .ref b48, .ref b49, .ref b50, .ref b51, .ref b52, .ref b53, .ref b54, .ref b55, .ref b56, .ref b57, .ref b58, .ref b59, .ref b60, .ref b61, .ref b62, .ref b63])), (b6, .inl (g.2.1 1, 11, .inl P)), (b7, .inl (g.2.1 1, 11, .inl Lc)), (b12, .inl (g.2.1 1, 132, .inl La)), (b13, .inl (g.2.1 1, 132, .inl Lb)), (b48, .inl (g.2.1 3, 12, .inl lw)), (b46, .inl (g.2.1 1, 112, .inl gq53)), (b47, .inl (g.2.1 1, 16, .inl gw54))] := hW.pick [0, 1, 2, 3, 4, 5, 6, 7] rfl rfl
                              exact ih2 (i + 1) gq53 gw54 (by omega) (by omega) (fun x hx => (hq2_gq53 x (by omega)).trans (hG3 x hx)) hgw54 (gno_s hno (by omega) hea heb eA eB (fun ha9 hb9 hw9 hu9 => fun hg9 => absurd (hq1_gq53 (gok_cong hg9 (fun o ho => (hC o ho).symm))) (by rw [c56]; decide))) _ _ _ hW (lv_sub hl [1, 2, 3, 4, 5, 6, 0] rfl)
                            · refine lv_iconst (v := 1) (pc := 274) hx hb dX12_gossips_274 (by decide) ?_
                              exact e_z X hQ hr hW (u := [(h0, .inr (12, [.int i0, .ref b1, .int i2, .int i3, .int i4, .int i5, .ref b6, .ref b7, .ref b8, .ref b9, .ref b10, .ref b11, .ref b12, .ref b13, .ref b14, .ref b15, .ref b16, .ref b17, .int i18, .int i19, .int i20, .ref b21, .ref b22, .ref b23, .ref b24, .ref b25, .ref b26, .int i27, .ref b28, .ref b29, .ref b30, .ref b31, .ref b32, .ref b33, .ref b34, .ref b35, .ref b36, .int i37, .int i38, .int i39, .int i40, .int i41, .int i42, .int i43, .int i44, .int i45, .ref b46, .ref b47, .ref b48, .ref b49, .ref b50, .ref b51, .ref b52, .ref b53, .ref b54, .ref b55, .ref b56, .ref b57, .ref b58, .ref b59, .ref b60, .ref b61, .ref b62, .ref b63])), (b6, .inl (g.2.1 1, 11, .inl P)), (b7, .inl (g.2.1 1, 11, .inl Lc)), (b12, .inl (g.2.1 1, 132, .inl La)), (b13, .inl (g.2.1 1, 132, .inl Lb)), (b48, .inl (g.2.1 3, 12, .inl lw)), (b46, .inl (g.2.1 1, 112, .inl gq53)), (b47, .inl (g.2.1 1, 16, .inl gw54))]) rfl [0, 1, 2, 3, 4, 5, 6, 7] rfl rfl (⟨_, _, Or.inr rfl, fun _ => rfl, fun x hx => (hq2_gq53 x (by omega)).trans (hG3 x hx), hgw54, rfl⟩) ⟨Nat.le_of_ble_eq_true rfl, Nat.le_of_ble_eq_true rfl⟩ dX12_gossips_275
                          · have hyl : y < pp := ge_f (by omega) (by omega) c49
                            refine lv_aload_n (pc := 194) hx hb dX12_gossips_194 rfl (lv_at hl 0 rfl) ?_
                            refine r_get X hW 0 ciX12 46 rfl (by decide) m_1273 rfl rfl dX12_gossips_195 ?_
                            refine lv_iload (pc := 198) hx hb dX12_gossips_198 (lv_at hl 4 rfl) ?_
                            refine lv_bipush (v := 7) (pc := 200) hx hb dX12_gossips_200 (by decide) ?_
                            refine lv_iadd (pc := 202) hx hb dX12_gossips_202 ?_
                            refine lv_topi (fun uv57 euv57 => ?_)
                            obtain rfl : uv57 = nI (7 * dn + 7) := euv57.trans (nI_add _ _)
                            refine lv_iload (pc := 203) hx hb dX12_gossips_203 (lv_at hl 9 rfl) ?_
                            refine lv_iadd (pc := 205) hx hb dX12_gossips_205 ?_
                            refine lv_topi (fun uv58 euv58 => ?_)
                            obtain rfl : uv58 = nI (7 * dn + 7 + y) := euv58.trans (nI_add _ _)
                            refine lv_iload (pc := 206) hx hb dX12_gossips_206 (lv_at hl 9 rfl) ?_
                            refine lv_aload_n (pc := 208) hx hb dX12_gossips_208 rfl (lv_at hl 0 rfl) ?_
                            refine r_get X hW 0 ciX12 12 rfl (by decide) m_1243 rfl rfl dX12_gossips_209 ?_
                            refine lv_iload (pc := 212) hx hb dX12_gossips_212 (lv_at hl 7 rfl) ?_
                            refine r_iald X hW 3 rfl (vp_in_nI (by omega) (by decide)) dX12_gossips_214 ?_
                            refine lv_topi (fun uv59 euv59 => ?_)
                            obtain rfl : uv59 = nI ea := euv59.trans (by rw [nI_clamp (by omega)]; exact eA)
                            refine lv_icmp_eq (tgt := 230) (pc := 215) hx hb dX12_gossips_215 rfl (fun c60 => ?_) (fun c60 => ?_)
                            · refine lv_iload (pc := 230) hx hb dX12_gossips_230 (lv_at hl 8 rfl) ?_
                              refine lv_goto (tgt := 245) (pc := 232) hx hb dX12_gossips_232 rfl ?_
                              obtain ⟨f61, ef61⟩ : ∃ fz : Nat → Int32, upd G3 (nI (7 * dn + 7 + y)).toNatClampNeg (G (7 * dn + ea) ||| G (7 * dn + eb)) = fz := ⟨_, rfl⟩
                              refine r_iast (ws' := [(h0, .inr (12, [.int i0, .ref b1, .int i2, .int i3, .int i4, .int i5, .ref b6, .ref b7, .ref b8, .ref b9, .ref b10, .ref b11, .ref b12, .ref b13, .ref b14, .ref b15, .ref b16, .ref b17, .int i18, .int i19, .int i20, .ref b21, .ref b22, .ref b23, .ref b24, .ref b25, .ref b26, .int i27, .ref b28, .ref b29, .ref b30, .ref b31, .ref b32, .ref b33, .ref b34, .ref b35, .ref b36, .int i37, .int i38, .int i39, .int i40, .int i41, .int i42, .int i43, .int i44, .int i45, .ref b46, .ref b47, .ref b48, .ref b49, .ref b50, .ref b51, .ref b52, .ref b53, .ref b54, .ref b55, .ref b56, .ref b57, .ref b58, .ref b59, .ref b60, .ref b61, .ref b62, .ref b63])), (b6, .inl (g.2.1 1, 11, .inl P)), (b7, .inl (g.2.1 1, 11, .inl Lc)), (b12, .inl (g.2.1 1, 132, .inl La)), (b13, .inl (g.2.1 1, 132, .inl Lb)), (b48, .inl (g.2.1 3, 12, .inl lw)), (b46, .inl (g.2.1 1, 112, .inl f61)), (b47, .inl (g.2.1 1, 16, .inl gr))]) X hW 6 rfl (vp_in_nI (by omega) (by decide)) ef61 rfl dX12_gossips_245 (fun H locs hW => ?_)
                              refine lv_iinc (v := nI (y + 1)) (lv' := [(9, .int (nI (y + 1))), (0, .ref h0), (1, .int (nI v)), (2, .int (nI dn)), (3, .int 4), (4, .int (nI (7 * dn))), (5, .int 0), (6, .int (nI i)), (7, .int (nI (12 * v + i))), (8, .int (G (7 * dn + ea) ||| G (7 * dn + eb)))]) (pc := 246) hx hb dX12_gossips_246 hl (k := 9) rfl ((nI_succ y).symm) (by decide) rfl (fun ls hl => ?_)
                              refine lv_goto (tgt := 183) (pc := 249) hx hb dX12_gossips_249 rfl ?_
                              have hW : WD g A s _ _ [(h0, .inr (12, [.int i0, .ref b1, .int i2, .int i3, .int i4, .int i5, .ref b6, .ref b7, .ref b8, .ref b9, .ref b10, .ref b11, .ref b12, .ref b13, .ref b14, .ref b15, .ref b16, .ref b17, .int i18, .int i19, .int i20, .ref b21, .ref b22, .ref b23, .ref b24, .ref b25, .ref b26, .int i27, .ref b28, .ref b29, .ref b30, .ref b31, .ref b32, .ref b33, .ref b34, .ref b35, .ref b36, .int i37, .int i38, .int i39, .int i40, .int i41, .int i42, .int i43, .int i44, .int i45, .ref b46, .ref b47, .ref b48, .ref b49, .ref b50, .ref b51, .ref b52, .ref b53, .ref b54, .ref b55, .ref b56, .ref b57, .ref b58, .ref b59, .ref b60, .ref b61, .ref b62, .ref b63])), (b6, .inl (g.2.1 1, 11, .inl P)), (b7, .inl (g.2.1 1, 11, .inl Lc)), (b12, .inl (g.2.1 1, 132, .inl La)), (b13, .inl (g.2.1 1, 132, .inl Lb)), (b48, .inl (g.2.1 3, 12, .inl lw)), (b46, .inl (g.2.1 1, 112, .inl f61)), (b47, .inl (g.2.1 1, 16, .inl gr))] := hW.pick [0, 1, 2, 3, 4, 5, 6, 7] rfl rfl
                              exact ih3 (y + 1) f61 (by omega) (by omega) (fun x hx => by
                                  rw [← ef61, nI_clamp (by omega)]
                                  simp only [upd, show ¬ x = 7 * dn + 7 + y by omega, if_false]
                                  exact hG3 x hx) (fun z hz => by
                                  rw [← ef61, nI_clamp (by omega)]
                                  by_cases e9 : z = y
                                  · subst e9; simp only [upd, if_true]; rw [gaft, if_pos (Or.inl (nI_inj6 (by omega) (by omega) c60))]; rfl
                                  · simp only [upd, show ¬ 7 * dn + 7 + z = 7 * dn + 7 + y by omega, if_false]; exact hC z (by omega)) _ _ _ hW (lv_sub hl [1, 2, 3, 4, 5, 6, 7, 8, 9, 0] rfl)
                            · refine lv_iload (pc := 218) hx hb dX12_gossips_218 (lv_at hl 9 rfl) ?_
                              refine lv_aload_n (pc := 220) hx hb dX12_gossips_220 rfl (lv_at hl 0 rfl) ?_
                              refine r_get X hW 0 ciX12 13 rfl (by decide) m_1244 rfl rfl dX12_gossips_221 ?_
                              refine lv_iload (pc := 224) hx hb dX12_gossips_224 (lv_at hl 7 rfl) ?_
                              refine r_iald X hW 4 rfl (vp_in_nI (by omega) (by decide)) dX12_gossips_226 ?_
                              refine lv_topi (fun uv62 euv62 => ?_)
                              obtain rfl : uv62 = nI eb := euv62.trans (by rw [nI_clamp (by omega)]; exact eB)
                              refine lv_icmp_ne (tgt := 235) (pc := 227) hx hb dX12_gossips_227 rfl (fun c63 => ?_) (fun c63 => ?_)
                              · refine lv_aload_n (pc := 235) hx hb dX12_gossips_235 rfl (lv_at hl 0 rfl) ?_
                                refine r_get X hW 0 ciX12 46 rfl (by decide) m_1273 rfl rfl dX12_gossips_236 ?_
                                refine lv_iload (pc := 239) hx hb dX12_gossips_239 (lv_at hl 4 rfl) ?_
                                refine lv_iload (pc := 241) hx hb dX12_gossips_241 (lv_at hl 9 rfl) ?_
                                refine lv_iadd (pc := 243) hx hb dX12_gossips_243 ?_
                                refine lv_topi (fun uv64 euv64 => ?_)
                                obtain rfl : uv64 = nI (7 * dn + y) := euv64.trans (nI_add _ _)
                                refine r_iald X hW 6 rfl (vp_in_nI (by omega) (by decide)) dX12_gossips_244 ?_
                                refine lv_topi (fun uv65 euv65 => ?_)
                                obtain rfl : uv65 = G (7 * dn + y) := euv65.trans (by rw [nI_clamp (by omega)]; exact hG3 _ (by omega))
                                obtain ⟨f66, ef66⟩ : ∃ fz : Nat → Int32, upd G3 (nI (7 * dn + 7 + y)).toNatClampNeg (G (7 * dn + y)) = fz := ⟨_, rfl⟩
                                refine r_iast (ws' := [(h0, .inr (12, [.int i0, .ref b1, .int i2, .int i3, .int i4, .int i5, .ref b6, .ref b7, .ref b8, .ref b9, .ref b10, .ref b11, .ref b12, .ref b13, .ref b14, .ref b15, .ref b16, .ref b17, .int i18, .int i19, .int i20, .ref b21, .ref b22, .ref b23, .ref b24, .ref b25, .ref b26, .int i27, .ref b28, .ref b29, .ref b30, .ref b31, .ref b32, .ref b33, .ref b34, .ref b35, .ref b36, .int i37, .int i38, .int i39, .int i40, .int i41, .int i42, .int i43, .int i44, .int i45, .ref b46, .ref b47, .ref b48, .ref b49, .ref b50, .ref b51, .ref b52, .ref b53, .ref b54, .ref b55, .ref b56, .ref b57, .ref b58, .ref b59, .ref b60, .ref b61, .ref b62, .ref b63])), (b6, .inl (g.2.1 1, 11, .inl P)), (b7, .inl (g.2.1 1, 11, .inl Lc)), (b12, .inl (g.2.1 1, 132, .inl La)), (b13, .inl (g.2.1 1, 132, .inl Lb)), (b48, .inl (g.2.1 3, 12, .inl lw)), (b46, .inl (g.2.1 1, 112, .inl f66)), (b47, .inl (g.2.1 1, 16, .inl gr))]) X hW 6 rfl (vp_in_nI (by omega) (by decide)) ef66 rfl dX12_gossips_245 (fun H locs hW => ?_)
                                refine lv_iinc (v := nI (y + 1)) (lv' := [(9, .int (nI (y + 1))), (0, .ref h0), (1, .int (nI v)), (2, .int (nI dn)), (3, .int 4), (4, .int (nI (7 * dn))), (5, .int 0), (6, .int (nI i)), (7, .int (nI (12 * v + i))), (8, .int (G (7 * dn + ea) ||| G (7 * dn + eb)))]) (pc := 246) hx hb dX12_gossips_246 hl (k := 9) rfl ((nI_succ y).symm) (by decide) rfl (fun ls hl => ?_)
                                refine lv_goto (tgt := 183) (pc := 249) hx hb dX12_gossips_249 rfl ?_
                                have hW : WD g A s _ _ [(h0, .inr (12, [.int i0, .ref b1, .int i2, .int i3, .int i4, .int i5, .ref b6, .ref b7, .ref b8, .ref b9, .ref b10, .ref b11, .ref b12, .ref b13, .ref b14, .ref b15, .ref b16, .ref b17, .int i18, .int i19, .int i20, .ref b21, .ref b22, .ref b23, .ref b24, .ref b25, .ref b26, .int i27, .ref b28, .ref b29, .ref b30, .ref b31, .ref b32, .ref b33, .ref b34, .ref b35, .ref b36, .int i37, .int i38, .int i39, .int i40, .int i41, .int i42, .int i43, .int i44, .int i45, .ref b46, .ref b47, .ref b48, .ref b49, .ref b50, .ref b51, .ref b52, .ref b53, .ref b54, .ref b55, .ref b56, .ref b57, .ref b58, .ref b59, .ref b60, .ref b61, .ref b62, .ref b63])), (b6, .inl (g.2.1 1, 11, .inl P)), (b7, .inl (g.2.1 1, 11, .inl Lc)), (b12, .inl (g.2.1 1, 132, .inl La)), (b13, .inl (g.2.1 1, 132, .inl Lb)), (b48, .inl (g.2.1 3, 12, .inl lw)), (b46, .inl (g.2.1 1, 112, .inl f66)), (b47, .inl (g.2.1 1, 16, .inl gr))] := hW.pick [0, 1, 2, 3, 4, 5, 6, 7] rfl rfl
                                exact ih3 (y + 1) f66 (by omega) (by omega) (fun x hx => by
                                    rw [← ef66, nI_clamp (by omega)]
                                    simp only [upd, show ¬ x = 7 * dn + 7 + y by omega, if_false]
                                    exact hG3 x hx) (fun z hz => by
                                    rw [← ef66, nI_clamp (by omega)]
                                    by_cases e9 : z = y
                                    · subst e9; simp only [upd, if_true]; rw [gaft, if_neg (fun q => q.elim (fun r => c60 (congrArg nI r)) (fun r => c63 (congrArg nI r)))]; rfl
                                    · simp only [upd, show ¬ 7 * dn + 7 + z = 7 * dn + 7 + y by omega, if_false]; exact hC z (by omega)) _ _ _ hW (lv_sub hl [1, 2, 3, 4, 5, 6, 7, 8, 9, 0] rfl)
                              · refine lv_iload (pc := 230) hx hb dX12_gossips_230 (lv_at hl 8 rfl) ?_
                                refine lv_goto (tgt := 245) (pc := 232) hx hb dX12_gossips_232 rfl ?_
                                obtain ⟨f67, ef67⟩ : ∃ fz : Nat → Int32, upd G3 (nI (7 * dn + 7 + y)).toNatClampNeg (G (7 * dn + ea) ||| G (7 * dn + eb)) = fz := ⟨_, rfl⟩
                                refine r_iast (ws' := [(h0, .inr (12, [.int i0, .ref b1, .int i2, .int i3, .int i4, .int i5, .ref b6, .ref b7, .ref b8, .ref b9, .ref b10, .ref b11, .ref b12, .ref b13, .ref b14, .ref b15, .ref b16, .ref b17, .int i18, .int i19, .int i20, .ref b21, .ref b22, .ref b23, .ref b24, .ref b25, .ref b26, .int i27, .ref b28, .ref b29, .ref b30, .ref b31, .ref b32, .ref b33, .ref b34, .ref b35, .ref b36, .int i37, .int i38, .int i39, .int i40, .int i41, .int i42, .int i43, .int i44, .int i45, .ref b46, .ref b47, .ref b48, .ref b49, .ref b50, .ref b51, .ref b52, .ref b53, .ref b54, .ref b55, .ref b56, .ref b57, .ref b58, .ref b59, .ref b60, .ref b61, .ref b62, .ref b63])), (b6, .inl (g.2.1 1, 11, .inl P)), (b7, .inl (g.2.1 1, 11, .inl Lc)), (b12, .inl (g.2.1 1, 132, .inl La)), (b13, .inl (g.2.1 1, 132, .inl Lb)), (b48, .inl (g.2.1 3, 12, .inl lw)), (b46, .inl (g.2.1 1, 112, .inl f67)), (b47, .inl (g.2.1 1, 16, .inl gr))]) X hW 6 rfl (vp_in_nI (by omega) (by decide)) ef67 rfl dX12_gossips_245 (fun H locs hW => ?_)
                                refine lv_iinc (v := nI (y + 1)) (lv' := [(9, .int (nI (y + 1))), (0, .ref h0), (1, .int (nI v)), (2, .int (nI dn)), (3, .int 4), (4, .int (nI (7 * dn))), (5, .int 0), (6, .int (nI i)), (7, .int (nI (12 * v + i))), (8, .int (G (7 * dn + ea) ||| G (7 * dn + eb)))]) (pc := 246) hx hb dX12_gossips_246 hl (k := 9) rfl ((nI_succ y).symm) (by decide) rfl (fun ls hl => ?_)
                                refine lv_goto (tgt := 183) (pc := 249) hx hb dX12_gossips_249 rfl ?_
                                have hW : WD g A s _ _ [(h0, .inr (12, [.int i0, .ref b1, .int i2, .int i3, .int i4, .int i5, .ref b6, .ref b7, .ref b8, .ref b9, .ref b10, .ref b11, .ref b12, .ref b13, .ref b14, .ref b15, .ref b16, .ref b17, .int i18, .int i19, .int i20, .ref b21, .ref b22, .ref b23, .ref b24, .ref b25, .ref b26, .int i27, .ref b28, .ref b29, .ref b30, .ref b31, .ref b32, .ref b33, .ref b34, .ref b35, .ref b36, .int i37, .int i38, .int i39, .int i40, .int i41, .int i42, .int i43, .int i44, .int i45, .ref b46, .ref b47, .ref b48, .ref b49, .ref b50, .ref b51, .ref b52, .ref b53, .ref b54, .ref b55, .ref b56, .ref b57, .ref b58, .ref b59, .ref b60, .ref b61, .ref b62, .ref b63])), (b6, .inl (g.2.1 1, 11, .inl P)), (b7, .inl (g.2.1 1, 11, .inl Lc)), (b12, .inl (g.2.1 1, 132, .inl La)), (b13, .inl (g.2.1 1, 132, .inl Lb)), (b48, .inl (g.2.1 3, 12, .inl lw)), (b46, .inl (g.2.1 1, 112, .inl f67)), (b47, .inl (g.2.1 1, 16, .inl gr))] := hW.pick [0, 1, 2, 3, 4, 5, 6, 7] rfl rfl
                                exact ih3 (y + 1) f67 (by omega) (by omega) (fun x hx => by
                                    rw [← ef67, nI_clamp (by omega)]
                                    simp only [upd, show ¬ x = 7 * dn + 7 + y by omega, if_false]
                                    exact hG3 x hx) (fun z hz => by
                                    rw [← ef67, nI_clamp (by omega)]
                                    by_cases e9 : z = y
                                    · subst e9; simp only [upd, if_true]; rw [gaft, if_pos (Or.inr (nI_inj6 (by omega) (by omega) c63))]; rfl
                                    · simp only [upd, show ¬ 7 * dn + 7 + z = 7 * dn + 7 + y by omega, if_false]; exact hC z (by omega)) _ _ _ hW (lv_sub hl [1, 2, 3, 4, 5, 6, 7, 8, 9, 0] rfl)
                      exact loop3 (pp + 1) 0 G2 (by omega) (Nat.zero_le _) hG2 (fun z hz => absurd hz (Nat.not_lt_zero z)) _ _ _ hW (lv_sub hl [3, 4, 5, 6, 7, 8, 9, 2, 1, 0] rfl)
                    · refine lv_goto (tgt := 276) (pc := 177) hx hb dX12_gossips_177 rfl ?_
                      refine lv_iinc (v := nI (i + 1)) (lv' := [(6, .int (nI (i + 1))), (8, .int (G (7 * dn + ea) ||| G (7 * dn + eb))), (7, .int (nI (12 * v + i))), (0, .ref h0), (1, .int (nI v)), (2, .int (nI dn)), (3, .int 4), (4, .int (nI (7 * dn))), (5, .int 0)]) (pc := 276) hx hb dX12_gossips_276 hl (k := 8) rfl ((nI_succ i).symm) (by decide) rfl (fun ls hl => ?_)
                      refine lv_goto (tgt := 74) (pc := 279) hx hb dX12_gossips_279 rfl ?_
                      have hW : WD g A s _ _ [(h0, .inr (12, [.int i0, .ref b1, .int i2, .int i3, .int i4, .int i5, .ref b6, .ref b7, .ref b8, .ref b9, .ref b10, .ref b11, .ref b12, .ref b13, .ref b14, .ref b15, .ref b16, .ref b17, .int i18, .int i19, .int i20, .ref b21, .ref b22, .ref b23, .ref b24, .ref b25, .ref b26, .int i27, .ref b28, .ref b29, .ref b30, .ref b31, .ref b32, .ref b33, .ref b34, .ref b35, .ref b36, .int i37, .int i38, .int i39, .int i40, .int i41, .int i42, .int i43, .int i44, .int i45, .ref b46, .ref b47, .ref b48, .ref b49, .ref b50, .ref b51, .ref b52, .ref b53, .ref b54, .ref b55, .ref b56, .ref b57, .ref b58, .ref b59, .ref b60, .ref b61, .ref b62, .ref b63])), (b6, .inl (g.2.1 1, 11, .inl P)), (b7, .inl (g.2.1 1, 11, .inl Lc)), (b12, .inl (g.2.1 1, 132, .inl La)), (b13, .inl (g.2.1 1, 132, .inl Lb)), (b48, .inl (g.2.1 3, 12, .inl lw)), (b46, .inl (g.2.1 1, 112, .inl G2)), (b47, .inl (g.2.1 1, 16, .inl gr))] := hW.pick [0, 1, 2, 3, 4, 5, 6, 7] rfl rfl
                      exact ih2 (i + 1) G2 gr (by omega) (by omega) (hG2) hgr (gno_s hno (by omega) hea heb eA eB (fun ha9 hb9 hw9 hu9 => absurd ⟨h_eA, c47⟩ hu9)) _ _ _ hW (lv_sub hl [3, 4, 5, 6, 7, 8, 0] rfl)
          exact loop2 (lc + 1) 0 G gr0 (by omega) (Nat.zero_le _) (fun x hx => rfl) hg0 gno_0 _ _ _ hW (lv_sub hl [1, 2, 3, 4, 5, 6, 0] rfl)
      · have hkl : k < pp := ge_f (by omega) (by omega) c3
        refine lv_iload (pc := 23) hx hb dX12_gossips_23 (lv_at hl 5 rfl) ?_
        refine lv_if_eq (tgt := 50) (pc := 25) hx hb dX12_gossips_25 rfl (fun c68 => ?_) (fun c68 => ?_)
        · refine lv_iconst (v := 0) (pc := 50) hx hb dX12_gossips_50 (by decide) ?_
          refine lv_istore (lv' := [(5, .int 0), (0, .ref h0), (1, .int (nI v)), (2, .int (nI dn)), (3, .int 4), (4, .int (nI (7 * dn))), (6, .int (nI k))]) (pc := 51) hx hb dX12_gossips_51 hl (by decide) rfl (fun ls hl => ?_)
          refine lv_iinc (v := nI (k + 1)) (lv' := [(6, .int (nI (k + 1))), (5, .int 0), (0, .ref h0), (1, .int (nI v)), (2, .int (nI dn)), (3, .int 4), (4, .int (nI (7 * dn)))]) (pc := 53) hx hb dX12_gossips_53 hl (k := 6) rfl ((nI_succ k).symm) (by decide) rfl (fun ls hl => ?_)
          refine lv_goto (tgt := 12) (pc := 56) hx hb dX12_gossips_56 rfl ?_
          have hW : WD g A s _ _ [(h0, .inr (12, [.int i0, .ref b1, .int i2, .int i3, .int i4, .int i5, .ref b6, .ref b7, .ref b8, .ref b9, .ref b10, .ref b11, .ref b12, .ref b13, .ref b14, .ref b15, .ref b16, .ref b17, .int i18, .int i19, .int i20, .ref b21, .ref b22, .ref b23, .ref b24, .ref b25, .ref b26, .int i27, .ref b28, .ref b29, .ref b30, .ref b31, .ref b32, .ref b33, .ref b34, .ref b35, .ref b36, .int i37, .int i38, .int i39, .int i40, .int i41, .int i42, .int i43, .int i44, .int i45, .ref b46, .ref b47, .ref b48, .ref b49, .ref b50, .ref b51, .ref b52, .ref b53, .ref b54, .ref b55, .ref b56, .ref b57, .ref b58, .ref b59, .ref b60, .ref b61, .ref b62, .ref b63])), (b6, .inl (g.2.1 1, 11, .inl P)), (b7, .inl (g.2.1 1, 11, .inl Lc)), (b12, .inl (g.2.1 1, 132, .inl La)), (b13, .inl (g.2.1 1, 132, .inl Lb)), (b48, .inl (g.2.1 3, 12, .inl lw)), (b46, .inl (g.2.1 1, 112, .inl G)), (b47, .inl (g.2.1 1, 16, .inl gr0))] := hW.pick [0, 1, 2, 3, 4, 5, 6, 7] rfl rfl
          exact ih1 (k + 1) 0 (by omega) (by omega) (Or.inr ⟨rfl, (hal.resolve_left (fun r => absurd (r.1.symm.trans c68) (by decide))).2⟩) _ _ _ hW (lv_sub hl [2, 3, 4, 5, 6, 1, 0] rfl)
        · have hal9 : ¬ al = 0 := c68
          have hal1 : ¬ al = 0 → ∀ o : Nat, o < k → (rwt G dn) o = evy (nI pp) := fun q => (hal.resolve_right (fun r => q r.1)).2
          refine lv_aload_n (pc := 28) hx hb dX12_gossips_28 rfl (lv_at hl 0 rfl) ?_
          refine r_get X hW 0 ciX12 46 rfl (by decide) m_1273 rfl rfl dX12_gossips_29 ?_
          refine lv_iload (pc := 32) hx hb dX12_gossips_32 (lv_at hl 4 rfl) ?_
          refine lv_iload (pc := 34) hx hb dX12_gossips_34 (lv_at hl 6 rfl) ?_
          refine lv_iadd (pc := 36) hx hb dX12_gossips_36 ?_
          refine lv_topi (fun uv69 euv69 => ?_)
          obtain rfl : uv69 = nI (7 * dn + k) := euv69.trans (nI_add _ _)
          refine r_iald X hW 6 rfl (vp_in_nI (by omega) (by decide)) dX12_gossips_37 ?_
          refine lv_topi (fun uv70 euv70 => ?_)
          obtain rfl : uv70 = G (7 * dn + k) := euv70.trans (by rw [nI_clamp (by omega)])
          refine lv_aload_n (pc := 38) hx hb dX12_gossips_38 rfl (lv_at hl 0 rfl) ?_
          refine lv_iload_n (pc := 39) hx hb dX12_gossips_39 rfl (lv_at hl 1 rfl) ?_
          refine c_Vi (pc := 40) (As := [.int (nI v)]) (rest := [.int (G (7 * dn + k))]) (wr := [(b7, .inl (g.2.1 1, 11, .inl Lc)), (b12, .inl (g.2.1 1, 132, .inl La)), (b13, .inl (g.2.1 1, 132, .inl Lb)), (b48, .inl (g.2.1 3, 12, .inl lw)), (b46, .inl (g.2.1 1, 112, .inl G)), (b47, .inl (g.2.1 1, 16, .inl gr0))]) X hW 0 ciX12 rfl (C_X12_everybodyG l g h0 b1 b6 b7 b8 b9 b10 b11 b12 b13 b14 b15 b16 b17 b21 b22 b23 b24 b25 b26 b28 b29 b30 b31 b32 b33 b34 b35 b36 b46 b47 b48 b49 b50 b51 b52 b53 b54 b55 b56 b57 b58 b59 b60 b61 b62 b63 i0 i2 i3 i4 i5 i18 i19 i20 i27 i37 i38 i39 i40 i41 i42 i43 i44 i45 P v (by omega)) vX12_274 [0, 1] [2, 3, 4, 5, 6, 7] rfl rfl rfl rfl rfl rfl hl.1 rfl (Nat.le_of_ble_eq_true rfl) ⟨Nat.le_of_ble_eq_true rfl, Nat.le_of_ble_eq_true rfl⟩ ⟨Nat.le_of_ble_eq_true rfl, Nat.le_of_ble_eq_true rfl⟩ dX12_gossips_40 (fun r71 u9 H locs hq hW => ?_)
          obtain ⟨rfl, rfl⟩ := hq
          have hW : WD g A s _ _ [(b7, .inl (g.2.1 1, 11, .inl Lc)), (b12, .inl (g.2.1 1, 132, .inl La)), (b13, .inl (g.2.1 1, 132, .inl Lb)), (b48, .inl (g.2.1 3, 12, .inl lw)), (b46, .inl (g.2.1 1, 112, .inl G)), (b47, .inl (g.2.1 1, 16, .inl gr0)), (h0, .inr (12, [.int i0, .ref b1, .int i2, .int i3, .int i4, .int i5, .ref b6, .ref b7, .ref b8, .ref b9, .ref b10, .ref b11, .ref b12, .ref b13, .ref b14, .ref b15, .ref b16, .ref b17, .int i18, .int i19, .int i20, .ref b21, .ref b22, .ref b23, .ref b24, .ref b25, .ref b26, .int i27, .ref b28, .ref b29, .ref b30, .ref b31, .ref b32, .ref b33, .ref b34, .ref b35, .ref b36, .int i37, .int i38, .int i39, .int i40, .int i41, .int i42, .int i43, .int i44, .int i45, .ref b46, .ref b47, .ref b48, .ref b49, .ref b50, .ref b51, .ref b52, .ref b53, .ref b54, .ref b55, .ref b56, .ref b57, .ref b58, .ref b59, .ref b60, .ref b61, .ref b62, .ref b63])), (b6, .inl (g.2.1 1, 11, .inl P))] := hW
          refine lv_icmp_ne (tgt := 50) (pc := 43) hx hb dX12_gossips_43 rfl (fun c72 => ?_) (fun c72 => ?_)
          · refine lv_iconst (v := 0) (pc := 50) hx hb dX12_gossips_50 (by decide) ?_
            refine lv_istore (lv' := [(5, .int 0), (0, .ref h0), (1, .int (nI v)), (2, .int (nI dn)), (3, .int 4), (4, .int (nI (7 * dn))), (6, .int (nI k))]) (pc := 51) hx hb dX12_gossips_51 hl (by decide) rfl (fun ls hl => ?_)
            refine lv_iinc (v := nI (k + 1)) (lv' := [(6, .int (nI (k + 1))), (5, .int 0), (0, .ref h0), (1, .int (nI v)), (2, .int (nI dn)), (3, .int 4), (4, .int (nI (7 * dn)))]) (pc := 53) hx hb dX12_gossips_53 hl (k := 6) rfl ((nI_succ k).symm) (by decide) rfl (fun ls hl => ?_)
            refine lv_goto (tgt := 12) (pc := 56) hx hb dX12_gossips_56 rfl ?_
            have hW : WD g A s _ _ [(h0, .inr (12, [.int i0, .ref b1, .int i2, .int i3, .int i4, .int i5, .ref b6, .ref b7, .ref b8, .ref b9, .ref b10, .ref b11, .ref b12, .ref b13, .ref b14, .ref b15, .ref b16, .ref b17, .int i18, .int i19, .int i20, .ref b21, .ref b22, .ref b23, .ref b24, .ref b25, .ref b26, .int i27, .ref b28, .ref b29, .ref b30, .ref b31, .ref b32, .ref b33, .ref b34, .ref b35, .ref b36, .int i37, .int i38, .int i39, .int i40, .int i41, .int i42, .int i43, .int i44, .int i45, .ref b46, .ref b47, .ref b48, .ref b49, .ref b50, .ref b51, .ref b52, .ref b53, .ref b54, .ref b55, .ref b56, .ref b57, .ref b58, .ref b59, .ref b60, .ref b61, .ref b62, .ref b63])), (b6, .inl (g.2.1 1, 11, .inl P)), (b7, .inl (g.2.1 1, 11, .inl Lc)), (b12, .inl (g.2.1 1, 132, .inl La)), (b13, .inl (g.2.1 1, 132, .inl Lb)), (b48, .inl (g.2.1 3, 12, .inl lw)), (b46, .inl (g.2.1 1, 112, .inl G)), (b47, .inl (g.2.1 1, 16, .inl gr0))] := hW.pick [6, 7, 0, 1, 2, 3, 4, 5] rfl rfl
            exact ih1 (k + 1) 0 (by omega) (by omega) (Or.inr ⟨rfl, (fun q => c72 (by have := q k hkl; rw [hP]; exact this))⟩) _ _ _ hW (lv_sub hl [2, 3, 4, 5, 6, 1, 0] rfl)
          · refine lv_iconst (v := 1) (pc := 46) hx hb dX12_gossips_46 (by decide) ?_
            refine lv_goto (tgt := 51) (pc := 47) hx hb dX12_gossips_47 rfl ?_
            refine lv_istore (lv' := [(5, .int 1), (0, .ref h0), (1, .int (nI v)), (2, .int (nI dn)), (3, .int 4), (4, .int (nI (7 * dn))), (6, .int (nI k))]) (pc := 51) hx hb dX12_gossips_51 hl (by decide) rfl (fun ls hl => ?_)
            refine lv_iinc (v := nI (k + 1)) (lv' := [(6, .int (nI (k + 1))), (5, .int 1), (0, .ref h0), (1, .int (nI v)), (2, .int (nI dn)), (3, .int 4), (4, .int (nI (7 * dn)))]) (pc := 53) hx hb dX12_gossips_53 hl (k := 6) rfl ((nI_succ k).symm) (by decide) rfl (fun ls hl => ?_)
            refine lv_goto (tgt := 12) (pc := 56) hx hb dX12_gossips_56 rfl ?_
            have hW : WD g A s _ _ [(h0, .inr (12, [.int i0, .ref b1, .int i2, .int i3, .int i4, .int i5, .ref b6, .ref b7, .ref b8, .ref b9, .ref b10, .ref b11, .ref b12, .ref b13, .ref b14, .ref b15, .ref b16, .ref b17, .int i18, .int i19, .int i20, .ref b21, .ref b22, .ref b23, .ref b24, .ref b25, .ref b26, .int i27, .ref b28, .ref b29, .ref b30, .ref b31, .ref b32, .ref b33, .ref b34, .ref b35, .ref b36, .int i37, .int i38, .int i39, .int i40, .int i41, .int i42, .int i43, .int i44, .int i45, .ref b46, .ref b47, .ref b48, .ref b49, .ref b50, .ref b51, .ref b52, .ref b53, .ref b54, .ref b55, .ref b56, .ref b57, .ref b58, .ref b59, .ref b60, .ref b61, .ref b62, .ref b63])), (b6, .inl (g.2.1 1, 11, .inl P)), (b7, .inl (g.2.1 1, 11, .inl Lc)), (b12, .inl (g.2.1 1, 132, .inl La)), (b13, .inl (g.2.1 1, 132, .inl Lb)), (b48, .inl (g.2.1 3, 12, .inl lw)), (b46, .inl (g.2.1 1, 112, .inl G)), (b47, .inl (g.2.1 1, 16, .inl gr0))] := hW.pick [6, 7, 0, 1, 2, 3, 4, 5] rfl rfl
            exact ih1 (k + 1) 1 (by omega) (by omega) (Or.inl ⟨rfl, gall_s (p := pp) (hal1 hal9) (by show G (7 * dn + k) = _; rw [c72, hP])⟩) _ _ _ hW (lv_sub hl [2, 3, 4, 5, 6, 1, 0] rfl)
  exact loop1 (pp + 1) 0 1 (by omega) (Nat.zero_le _) (Or.inl ⟨rfl, fun o ho => absurd ho (Nat.not_lt_zero o)⟩) _ _ _ hW (lv_sub hl [3, 4, 5, 6, 2, 1, 0] rfl)

set_option maxHeartbeats 40000000 in
set_option maxRecDepth 100000 in
theorem C_X12_gossips_5 (l : Launch) (g : GG) (h0 b1 b6 b7 b8 b9 b10 b11 b12 b13 b14 b15 b16 b17 b21 b22 b23 b24 b25 b26 b28 b29 b30 b31 b32 b33 b34 b35 b36 b46 b47 b48 b49 b50 b51 b52 b53 b54 b55 b56 b57 b58 b59 b60 b61 b62 b63 : Nat) (i0 i2 i3 i4 i5 i18 i19 i20 i27 i37 i38 i39 i40 i41 i42 i43 i44 i45 : Int32) (P Lc La Lb lw G gr0 : Nat → Int32) (v lc pp dn : Nat) (hv : v ≤ 10) (hlc : lc ≤ 12) (hpp : pp ≤ 7) (hP : P v = nI pp) (hLc : Lc v = nI lc) (hLA : in6 La) (hLB : in6 Lb) (hg0 : gb16 gr0) (hdn : dn + 5 ≤ 15) : MetI l g yX12_gossips cX12_gossips 10 (some .boolean) 6 0 0 [.ref h0, .int (nI v), .int (nI dn), .int 5] [(h0, .inr (12, [.int i0, .ref b1, .int i2, .int i3, .int i4, .int i5, .ref b6, .ref b7, .ref b8, .ref b9, .ref b10, .ref b11, .ref b12, .ref b13, .ref b14, .ref b15, .ref b16, .ref b17, .int i18, .int i19, .int i20, .ref b21, .ref b22, .ref b23, .ref b24, .ref b25, .ref b26, .int i27, .ref b28, .ref b29, .ref b30, .ref b31, .ref b32, .ref b33, .ref b34, .ref b35, .ref b36, .int i37, .int i38, .int i39, .int i40, .int i41, .int i42, .int i43, .int i44, .int i45, .ref b46, .ref b47, .ref b48, .ref b49, .ref b50, .ref b51, .ref b52, .ref b53, .ref b54, .ref b55, .ref b56, .ref b57, .ref b58, .ref b59, .ref b60, .ref b61, .ref b62, .ref b63])), (b6, .inl (g.2.1 1, 11, .inl P)), (b7, .inl (g.2.1 1, 11, .inl Lc)), (b12, .inl (g.2.1 1, 132, .inl La)), (b13, .inl (g.2.1 1, 132, .inl Lb)), (b48, .inl (g.2.1 3, 12, .inl lw)), (b46, .inl (g.2.1 1, 112, .inl G)), (b47, .inl (g.2.1 1, 16, .inl gr0))] (fun r u => ∃ G' gr' : Nat → Int32, (r = 0 ∨ r = 1) ∧ (gok (gV La Lb lw v lc) pp (evy (nI pp)) 5 (rwt G dn) → r = 1) ∧ (∀ x : Nat, x < 7 * (dn + 1) → G' x = G x) ∧ gb16 gr' ∧ u = [(h0, .inr (12, [.int i0, .ref b1, .int i2, .int i3, .int i4, .int i5, .ref b6, .ref b7, .ref b8, .ref b9, .ref b10, .ref b11, .ref b12, .ref b13, .ref b14, .ref b15, .ref b16, .ref b17, .int i18, .int i19, .int i20, .ref b21, .ref b22, .ref b23, .ref b24, .ref b25, .ref b26, .int i27, .ref b28, .ref b29, .ref b30, .ref b31, .ref b32, .ref b33, .ref b34, .ref b35, .ref b36, .int i37, .int i38, .int i39, .int i40, .int i41, .int i42, .int i43, .int i44, .int i45, .ref b46, .ref b47, .ref b48, .ref b49, .ref b50, .ref b51, .ref b52, .ref b53, .ref b54, .ref b55, .ref b56, .ref b57, .ref b58, .ref b59, .ref b60, .ref b61, .ref b62, .ref b63])), (b6, .inl (g.2.1 1, 11, .inl P)), (b7, .inl (g.2.1 1, 11, .inl Lc)), (b12, .inl (g.2.1 1, 132, .inl La)), (b13, .inl (g.2.1 1, 132, .inl Lb)), (b48, .inl (g.2.1 3, 12, .inl lw)), (b46, .inl (g.2.1 1, 112, .inl G')), (b47, .inl (g.2.1 1, 16, .inl gr'))]) := by
  refine MetI.of (own := RX12) rfl (by decide) (Nat.le_of_ble_eq_true rfl) ?_
  intro p e s m below meth c A ls args Q hQ X hr hin hW hl
  have hx := X.1
  have hb := X.2.1
  have hl : lv_has ls 10 [(0, .ref h0), (1, .int (nI v)), (2, .int (nI dn)), (3, .int 5)] := hl
  refine lv_bipush (v := 7) (pc := 0) hx hb dX12_gossips_0 (by decide) ?_
  refine lv_iload_n (pc := 2) hx hb dX12_gossips_2 rfl (lv_at hl 2 rfl) ?_
  refine lv_imul (pc := 3) hx hb dX12_gossips_3 ?_
  refine lv_topi (fun uv1 euv1 => ?_)
  obtain rfl : uv1 = nI (7 * dn) := euv1.trans (pk_mul _ _)
  refine lv_istore (lv' := [(4, .int (nI (7 * dn))), (0, .ref h0), (1, .int (nI v)), (2, .int (nI dn)), (3, .int 5)]) (pc := 4) hx hb dX12_gossips_4 hl (by decide) rfl (fun ls hl => ?_)
  refine lv_iconst (v := 1) (pc := 6) hx hb dX12_gossips_6 (by decide) ?_
  refine lv_istore (lv' := [(5, .int 1), (4, .int (nI (7 * dn))), (0, .ref h0), (1, .int (nI v)), (2, .int (nI dn)), (3, .int 5)]) (pc := 7) hx hb dX12_gossips_7 hl (by decide) rfl (fun ls hl => ?_)
  refine lv_iconst (v := 0) (pc := 9) hx hb dX12_gossips_9 (by decide) ?_
  refine lv_istore (lv' := [(6, .int 0), (5, .int 1), (4, .int (nI (7 * dn))), (0, .ref h0), (1, .int (nI v)), (2, .int (nI dn)), (3, .int 5)]) (pc := 10) hx hb dX12_gossips_10 hl (by decide) rfl (fun ls hl => ?_)
  have loop1 : ∀ (fu : Nat) (k : Nat) (al : Int32), (pp < fu + k) → (k ≤ pp) → ((al = 1 ∧ ∀ o : Nat, o < k → (rwt G dn) o = evy (nI pp)) ∨ (al = 0 ∧ ¬ gall pp (evy (nI pp)) (rwt G dn))) → ∀ (H : Heap) (locs : List Loc) (ls : Array Slot), WD g A s H locs [(h0, .inr (12, [.int i0, .ref b1, .int i2, .int i3, .int i4, .int i5, .ref b6, .ref b7, .ref b8, .ref b9, .ref b10, .ref b11, .ref b12, .ref b13, .ref b14, .ref b15, .ref b16, .ref b17, .int i18, .int i19, .int i20, .ref b21, .ref b22, .ref b23, .ref b24, .ref b25, .ref b26, .int i27, .ref b28, .ref b29, .ref b30, .ref b31, .ref b32, .ref b33, .ref b34, .ref b35, .ref b36, .int i37, .int i38, .int i39, .int i40, .int i41, .int i42, .int i43, .int i44, .int i45, .ref b46, .ref b47, .ref b48, .ref b49, .ref b50, .ref b51, .ref b52, .ref b53, .ref b54, .ref b55, .ref b56, .ref b57, .ref b58, .ref b59, .ref b60, .ref b61, .ref b62, .ref b63])), (b6, .inl (g.2.1 1, 11, .inl P)), (b7, .inl (g.2.1 1, 11, .inl Lc)), (b12, .inl (g.2.1 1, 132, .inl La)), (b13, .inl (g.2.1 1, 132, .inl Lb)), (b48, .inl (g.2.1 3, 12, .inl lw)), (b46, .inl (g.2.1 1, 112, .inl G)), (b47, .inl (g.2.1 1, 16, .inl gr0))] → lv_has ls 10 [(0, .ref h0), (1, .int (nI v)), (2, .int (nI dn)), (3, .int 5), (4, .int (nI (7 * dn))), (5, .int al), (6, .int (nI k))] → W p l e (RM 6 0 0) s m args below meth c H locs 0 0 Q (F0 m 12 ls []) := by
    intro fu
    induction fu with
    | zero =>
      intro k al hm hk hal
      exact absurd hm (by omega)
    | succ fu ih1 =>
      intro k al hm hk hal H locs ls hW hl
      refine lv_iload (pc := 12) hx hb dX12_gossips_12 (lv_at hl 6 rfl) ?_
      refine lv_aload_n (pc := 14) hx hb dX12_gossips_14 rfl (lv_at hl 0 rfl) ?_
      refine r_get X hW 0 ciX12 6 rfl (by decide) m_1237 rfl rfl dX12_gossips_15 ?_
      refine lv_iload_n (pc := 18) hx hb dX12_gossips_18 rfl (lv_at hl 1 rfl) ?_
      refine r_iald X hW 1 rfl (vp_in_nI (by omega) (by decide)) dX12_gossips_19 ?_
      refine lv_topi (fun uv2 euv2 => ?_)
      obtain rfl : uv2 = nI pp := euv2.trans (by rw [nI_clamp (by omega)]; exact hP)
      refine lv_icmp_ge (tgt := 59) (pc := 20) hx hb dX12_gossips_20 rfl (fun c3 => ?_) (fun c3 => ?_)
      · have hkp : k = pp := Nat.le_antisymm hk (ge_t (by omega) (by omega) c3)
        rw [hkp] at hal
        rcases hal with ⟨ha1, hal⟩ | ⟨ha1, hal⟩
        · subst ha1
          refine lv_iload (pc := 59) hx hb dX12_gossips_59 (lv_at hl 5 rfl) ?_
          refine lv_if_ne (tgt := 68) (pc := 61) hx hb dX12_gossips_61 rfl (fun c4 => ?_) (fun c4 => absurd c4 (by decide))
          refine lv_iload (pc := 68) hx hb dX12_gossips_68 (lv_at hl 5 rfl) ?_
          exact e_z X hQ hr hW (u := [(h0, .inr (12, [.int i0, .ref b1, .int i2, .int i3, .int i4, .int i5, .ref b6, .ref b7, .ref b8, .ref b9, .ref b10, .ref b11, .ref b12, .ref b13, .ref b14, .ref b15, .ref b16, .ref b17, .int i18, .int i19, .int i20, .ref b21, .ref b22, .ref b23, .ref b24, .ref b25, .ref b26, .int i27, .ref b28, .ref b29, .ref b30, .ref b31, .ref b32, .ref b33, .ref b34, .ref b35, .ref b36, .int i37, .int i38, .int i39, .int i40, .int i41, .int i42, .int i43, .int i44, .int i45, .ref b46, .ref b47, .ref b48, .ref b49, .ref b50, .ref b51, .ref b52, .ref b53, .ref b54, .ref b55, .ref b56, .ref b57, .ref b58, .ref b59, .ref b60, .ref b61, .ref b62, .ref b63])), (b6, .inl (g.2.1 1, 11, .inl P)), (b7, .inl (g.2.1 1, 11, .inl Lc)), (b12, .inl (g.2.1 1, 132, .inl La)), (b13, .inl (g.2.1 1, 132, .inl Lb)), (b48, .inl (g.2.1 3, 12, .inl lw)), (b46, .inl (g.2.1 1, 112, .inl G)), (b47, .inl (g.2.1 1, 16, .inl gr0))]) rfl [0, 1, 2, 3, 4, 5, 6, 7] rfl rfl (⟨_, _, Or.inr rfl, fun _ => rfl, fun x hx => rfl, hg0, rfl⟩) ⟨Nat.le_of_ble_eq_true rfl, Nat.le_of_ble_eq_true rfl⟩ dX12_gossips_70
        · subst ha1
          refine lv_iload (pc := 59) hx hb dX12_gossips_59 (lv_at hl 5 rfl) ?_
          refine lv_if_ne (tgt := 68) (pc := 61) hx hb dX12_gossips_61 rfl (fun c5 => absurd (by decide) c5) (fun c5 => ?_)
          refine lv_iload_n (pc := 64) hx hb dX12_gossips_64 rfl (lv_at hl 3 rfl) ?_
          refine lv_if_ne (tgt := 71) (pc := 65) hx hb dX12_gossips_65 rfl (fun c6 => ?_) (fun c6 => absurd c6 (by decide))
          refine lv_iconst (v := 0) (pc := 71) hx hb dX12_gossips_71 (by decide) ?_
          refine lv_istore (lv' := [(6, .int 0), (0, .ref h0), (1, .int (nI v)), (2, .int (nI dn)), (3, .int 5), (4, .int (nI (7 * dn))), (5, .int 0)]) (pc := 72) hx hb dX12_gossips_72 hl (by decide) rfl (fun ls hl => ?_)
          have hW : WD g A s _ _ [(h0, .inr (12, [.int i0, .ref b1, .int i2, .int i3, .int i4, .int i5, .ref b6, .ref b7, .ref b8, .ref b9, .ref b10, .ref b11, .ref b12, .ref b13, .ref b14, .ref b15, .ref b16, .ref b17, .int i18, .int i19, .int i20, .ref b21, .ref b22, .ref b23, .ref b24, .ref b25, .ref b26, .int i27, .ref b28, .ref b29, .ref b30, .ref b31, .ref b32, .ref b33, .ref b34, .ref b35, .ref b36, .int i37, .int i38, .int i39, .int i40, .int i41, .int i42, .int i43, .int i44, .int i45, .ref b46, .ref b47, .ref b48, .ref b49, .ref b50, .ref b51, .ref b52, .ref b53, .ref b54, .ref b55, .ref b56, .ref b57, .ref b58, .ref b59, .ref b60, .ref b61, .ref b62, .ref b63])), (b6, .inl (g.2.1 1, 11, .inl P)), (b7, .inl (g.2.1 1, 11, .inl Lc)), (b12, .inl (g.2.1 1, 132, .inl La)), (b13, .inl (g.2.1 1, 132, .inl Lb)), (b48, .inl (g.2.1 3, 12, .inl lw)), (b46, .inl (g.2.1 1, 112, .inl G)), (b47, .inl (g.2.1 1, 16, .inl gr0))] := hW.pick [0, 1, 2, 3, 4, 5, 6, 7] rfl rfl
          have loop2 : ∀ (fv : Nat) (i : Nat) (G2 : Nat → Int32) (gr : Nat → Int32), (lc < fv + i) → (i ≤ lc) → (∀ x : Nat, x < 7 * (dn + 1) → G2 x = G x) → (gb16 gr) → (gno La Lb lw v lc pp (evy (nI pp)) 4 (rwt G dn) i) → ∀ (H : Heap) (locs : List Loc) (ls : Array Slot), WD g A s H locs [(h0, .inr (12, [.int i0, .ref b1, .int i2, .int i3, .int i4, .int i5, .ref b6, .ref b7, .ref b8, .ref b9, .ref b10, .ref b11, .ref b12, .ref b13, .ref b14, .ref b15, .ref b16, .ref b17, .int i18, .int i19, .int i20, .ref b21, .ref b22, .ref b23, .ref b24, .ref b25, .ref b26, .int i27, .ref b28, .ref b29, .ref b30, .ref b31, .ref b32, .ref b33, .ref b34, .ref b35, .ref b36, .int i37, .int i38, .int i39, .int i40, .int i41, .int i42, .int i43, .int i44, .int i45, .ref b46, .ref b47, .ref b48, .ref b49, .ref b50, .ref b51, .ref b52, .ref b53, .ref b54, .ref b55, .ref b56, .ref b57, .ref b58, .ref b59, .ref b60, .ref b61, .ref b62, .ref b63])), (b6, .inl (g.2.1 1, 11, .inl P)), (b7, .inl (g.2.1 1, 11, .inl Lc)), (b12, .inl (g.2.1 1, 132, .inl La)), (b13, .inl (g.2.1 1, 132, .inl Lb)), (b48, .inl (g.2.1 3, 12, .inl lw)), (b46, .inl (g.2.1 1, 112, .inl G2)), (b47, .inl (g.2.1 1, 16, .inl gr))] → lv_has ls 10 [(0, .ref h0), (1, .int (nI v)), (2, .int (nI dn)), (3, .int 5), (4, .int (nI (7 * dn))), (5, .int 0), (6, .int (nI i))] → W p l e (RM 6 0 0) s m args below meth c H locs 0 0 Q (F0 m 74 ls []) := by
            intro fv
            induction fv with
            | zero =>
              intro i G2 gr hm2 hi hG2 hgr hno
              exact absurd hm2 (by omega)
            | succ fv ih2 =>
              intro i G2 gr hm2 hi hG2 hgr hno H locs ls hW hl
              refine lv_iload (pc := 74) hx hb dX12_gossips_74 (lv_at hl 6 rfl) ?_
              refine lv_aload_n (pc := 76) hx hb dX12_gossips_76 rfl (lv_at hl 0 rfl) ?_
              refine r_get X hW 0 ciX12 7 rfl (by decide) m_1238 rfl rfl dX12_gossips_77 ?_
              refine lv_iload_n (pc := 80) hx hb dX12_gossips_80 rfl (lv_at hl 1 rfl) ?_
              refine r_iald X hW 2 rfl (vp_in_nI (by omega) (by decide)) dX12_gossips_81 ?_
              refine lv_topi (fun uv7 euv7 => ?_)
              obtain rfl : uv7 = nI lc := euv7.trans (by rw [nI_clamp (by omega)]; exact hLc)
              refine lv_icmp_ge (tgt := 282) (pc := 82) hx hb dX12_gossips_82 rfl (fun c8 => ?_) (fun c8 => ?_)
              · have hie : i = lc := Nat.le_antisymm hi (ge_t (by omega) (by omega) c8)
                refine lv_iconst (v := 0) (pc := 282) hx hb dX12_gossips_282 (by decide) ?_
                exact e_z X hQ hr hW (u := [(h0, .inr (12, [.int i0, .ref b1, .int i2, .int i3, .int i4, .int i5, .ref b6, .ref b7, .ref b8, .ref b9, .ref b10, .ref b11, .ref b12, .ref b13, .ref b14, .ref b15, .ref b16, .ref b17, .int i18, .int i19, .int i20, .ref b21, .ref b22, .ref b23, .ref b24, .ref b25, .ref b26, .int i27, .ref b28, .ref b29, .ref b30, .ref b31, .ref b32, .ref b33, .ref b34, .ref b35, .ref b36, .int i37, .int i38, .int i39, .int i40, .int i41, .int i42, .int i43, .int i44, .int i45, .ref b46, .ref b47, .ref b48, .ref b49, .ref b50, .ref b51, .ref b52, .ref b53, .ref b54, .ref b55, .ref b56, .ref b57, .ref b58, .ref b59, .ref b60, .ref b61, .ref b62, .ref b63])), (b6, .inl (g.2.1 1, 11, .inl P)), (b7, .inl (g.2.1 1, 11, .inl Lc)), (b12, .inl (g.2.1 1, 132, .inl La)), (b13, .inl (g.2.1 1, 132, .inl Lb)), (b48, .inl (g.2.1 3, 12, .inl lw)), (b46, .inl (g.2.1 1, 112, .inl G2)), (b47, .inl (g.2.1 1, 16, .inl gr))]) rfl [0, 1, 2, 3, 4, 5, 6, 7] rfl rfl (⟨_, _, Or.inl rfl, fun q => absurd q (gno_end hno hie hal), hG2, hgr, rfl⟩) ⟨Nat.le_of_ble_eq_true rfl, Nat.le_of_ble_eq_true rfl⟩ dX12_gossips_283
              · have hil : i < lc := ge_f (by omega) (by omega) c8
                obtain ⟨ea, hea, eA⟩ := hLA (12 * v + i) (by omega)
                obtain ⟨eb, heb, eB⟩ := hLB (12 * v + i) (by omega)
                refine lv_bipush (v := 12) (pc := 85) hx hb dX12_gossips_85 (by decide) ?_
                refine lv_iload_n (pc := 87) hx hb dX12_gossips_87 rfl (lv_at hl 1 rfl) ?_
                refine lv_imul (pc := 88) hx hb dX12_gossips_88 ?_
                refine lv_topi (fun uv9 euv9 => ?_)
                obtain rfl : uv9 = nI (12 * v) := euv9.trans (pk_mul _ _)
                refine lv_iload (pc := 89) hx hb dX12_gossips_89 (lv_at hl 6 rfl) ?_
                refine lv_iadd (pc := 91) hx hb dX12_gossips_91 ?_
                refine lv_topi (fun uv10 euv10 => ?_)
                obtain rfl : uv10 = nI (12 * v + i) := euv10.trans (nI_add _ _)
                refine lv_istore (lv' := [(7, .int (nI (12 * v + i))), (0, .ref h0), (1, .int (nI v)), (2, .int (nI dn)), (3, .int 5), (4, .int (nI (7 * dn))), (5, .int 0), (6, .int (nI i))]) (pc := 92) hx hb dX12_gossips_92 hl (by decide) rfl (fun ls hl => ?_)
                refine lv_aload_n (pc := 94) hx hb dX12_gossips_94 rfl (lv_at hl 1 rfl) ?_
                refine r_get X hW 0 ciX12 46 rfl (by decide) m_1273 rfl rfl dX12_gossips_95 ?_
                refine lv_iload (pc := 98) hx hb dX12_gossips_98 (lv_at hl 5 rfl) ?_
                refine lv_aload_n (pc := 100) hx hb dX12_gossips_100 rfl (lv_at hl 1 rfl) ?_
                refine r_get X hW 0 ciX12 12 rfl (by decide) m_1243 rfl rfl dX12_gossips_101 ?_
                refine lv_iload (pc := 104) hx hb dX12_gossips_104 (lv_at hl 0 rfl) ?_
                refine r_iald X hW 3 rfl (vp_in_nI (by omega) (by decide)) dX12_gossips_106 ?_
                refine lv_topi (fun uv11 euv11 => ?_)
                obtain rfl : uv11 = nI ea := euv11.trans (by rw [nI_clamp (by omega)]; exact eA)
                refine lv_iadd (pc := 107) hx hb dX12_gossips_107 ?_
                refine lv_topi (fun uv12 euv12 => ?_)
                obtain rfl : uv12 = nI (7 * dn + ea) := euv12.trans (nI_add _ _)
                refine r_iald X hW 6 rfl (vp_in_nI (by omega) (by decide)) dX12_gossips_108 ?_
                refine lv_topi (fun uv13 euv13 => ?_)
                obtain rfl : uv13 = G (7 * dn + ea) := euv13.trans (by rw [nI_clamp (by omega)]; exact hG2 _ (by omega))
                refine lv_aload_n (pc := 109) hx hb dX12_gossips_109 rfl (lv_at hl 1 rfl) ?_
                refine r_get X hW 0 ciX12 46 rfl (by decide) m_1273 rfl rfl dX12_gossips_110 ?_
                refine lv_iload (pc := 113) hx hb dX12_gossips_113 (lv_at hl 5 rfl) ?_
                refine lv_aload_n (pc := 115) hx hb dX12_gossips_115 rfl (lv_at hl 1 rfl) ?_
                refine r_get X hW 0 ciX12 13 rfl (by decide) m_1244 rfl rfl dX12_gossips_116 ?_
                refine lv_iload (pc := 119) hx hb dX12_gossips_119 (lv_at hl 0 rfl) ?_
                refine r_iald X hW 4 rfl (vp_in_nI (by omega) (by decide)) dX12_gossips_121 ?_
                refine lv_topi (fun uv14 euv14 => ?_)
                obtain rfl : uv14 = nI eb := euv14.trans (by rw [nI_clamp (by omega)]; exact eB)
                refine lv_iadd (pc := 122) hx hb dX12_gossips_122 ?_
                refine lv_topi (fun uv15 euv15 => ?_)
                obtain rfl : uv15 = nI (7 * dn + eb) := euv15.trans (nI_add _ _)
                refine r_iald X hW 6 rfl (vp_in_nI (by omega) (by decide)) dX12_gossips_123 ?_
                refine lv_topi (fun uv16 euv16 => ?_)
                obtain rfl : uv16 = G (7 * dn + eb) := euv16.trans (by rw [nI_clamp (by omega)]; exact hG2 _ (by omega))
                refine lv_ior (pc := 124) hx hb dX12_gossips_124 ?_
                refine lv_topi (fun uv17 euv17 => ?_)
                obtain rfl : uv17 = G (7 * dn + ea) ||| G (7 * dn + eb) := euv17.trans (rfl)
                refine lv_istore (lv' := [(8, .int (G (7 * dn + ea) ||| G (7 * dn + eb))), (7, .int (nI (12 * v + i))), (0, .ref h0), (1, .int (nI v)), (2, .int (nI dn)), (3, .int 5), (4, .int (nI (7 * dn))), (5, .int 0), (6, .int (nI i))]) (pc := 125) hx hb dX12_gossips_125 hl (by decide) rfl (fun ls hl => ?_)
                refine lv_aload_n (pc := 127) hx hb dX12_gossips_127 rfl (lv_at hl 2 rfl) ?_
                refine r_get X hW 0 ciX12 48 rfl (by decide) m_1275 rfl rfl dX12_gossips_128 ?_
                refine lv_iload (pc := 131) hx hb dX12_gossips_131 (lv_at hl 8 rfl) ?_
                refine r_zald X hW 5 rfl (vp_in_nI (by omega) (by decide)) dX12_gossips_133 ?_
                refine lv_topi (fun uv18 euv18 => ?_)
                obtain rfl : uv18 = lw i := euv18.trans (by rw [nI_clamp (by omega)])
                refine lv_if_eq (tgt := 276) (pc := 134) hx hb dX12_gossips_134 rfl (fun c19 => ?_) (fun c19 => ?_)
                · refine lv_iinc (v := nI (i + 1)) (lv' := [(6, .int (nI (i + 1))), (8, .int (G (7 * dn + ea) ||| G (7 * dn + eb))), (7, .int (nI (12 * v + i))), (0, .ref h0), (1, .int (nI v)), (2, .int (nI dn)), (3, .int 5), (4, .int (nI (7 * dn))), (5, .int 0)]) (pc := 276) hx hb dX12_gossips_276 hl (k := 8) rfl ((nI_succ i).symm) (by decide) rfl (fun ls hl => ?_)
                  refine lv_goto (tgt := 74) (pc := 279) hx hb dX12_gossips_279 rfl ?_
                  have hW : WD g A s _ _ [(h0, .inr (12, [.int i0, .ref b1, .int i2, .int i3, .int i4, .int i5, .ref b6, .ref b7, .ref b8, .ref b9, .ref b10, .ref b11, .ref b12, .ref b13, .ref b14, .ref b15, .ref b16, .ref b17, .int i18, .int i19, .int i20, .ref b21, .ref b22, .ref b23, .ref b24, .ref b25, .ref b26, .int i27, .ref b28, .ref b29, .ref b30, .ref b31, .ref b32, .ref b33, .ref b34, .ref b35, .ref b36, .int i37, .int i38, .int i39, .int i40, .int i41, .int i42, .int i43, .int i44, .int i45, .ref b46, .ref b47, .ref b48, .ref b49, .ref b50, .ref b51, .ref b52, .ref b53, .ref b54, .ref b55, .ref b56, .ref b57, .ref b58, .ref b59, .ref b60, .ref b61, .ref b62, .ref b63])), (b6, .inl (g.2.1 1, 11, .inl P)), (b7, .inl (g.2.1 1, 11, .inl Lc)), (b12, .inl (g.2.1 1, 132, .inl La)), (b13, .inl (g.2.1 1, 132, .inl Lb)), (b48, .inl (g.2.1 3, 12, .inl lw)), (b46, .inl (g.2.1 1, 112, .inl G2)), (b47, .inl (g.2.1 1, 16, .inl gr))] := hW.pick [0, 1, 2, 3, 4, 5, 6, 7] rfl rfl
                  exact ih2 (i + 1) G2 gr (by omega) (by omega) (hG2) hgr (gno_s hno (by omega) hea heb eA eB (fun ha9 hb9 hw9 hu9 => absurd c19 hw9)) _ _ _ hW (lv_sub hl [3, 4, 5, 6, 7, 8, 0] rfl)
                · have hw_i := c19
                  refine lv_aload_n (pc := 137) hx hb dX12_gossips_137 rfl (lv_at hl 2 rfl) ?_
                  refine r_get X hW 0 ciX12 46 rfl (by decide) m_1273 rfl rfl dX12_gossips_138 ?_
                  refine lv_iload (pc := 141) hx hb dX12_gossips_141 (lv_at hl 6 rfl) ?_
                  refine lv_aload_n (pc := 143) hx hb dX12_gossips_143 rfl (lv_at hl 2 rfl) ?_
                  refine r_get X hW 0 ciX12 12 rfl (by decide) m_1243 rfl rfl dX12_gossips_144 ?_
                  refine lv_iload (pc := 147) hx hb dX12_gossips_147 (lv_at hl 1 rfl) ?_
                  refine r_iald X hW 3 rfl (vp_in_nI (by omega) (by decide)) dX12_gossips_149 ?_
                  refine lv_topi (fun uv20 euv20 => ?_)
                  obtain rfl : uv20 = nI ea := euv20.trans (by rw [nI_clamp (by omega)]; exact eA)
                  refine lv_iadd (pc := 150) hx hb dX12_gossips_150 ?_
                  refine lv_topi (fun uv21 euv21 => ?_)
                  obtain rfl : uv21 = nI (7 * dn + ea) := euv21.trans (nI_add _ _)
                  refine r_iald X hW 6 rfl (vp_in_nI (by omega) (by decide)) dX12_gossips_151 ?_
                  refine lv_topi (fun uv22 euv22 => ?_)
                  obtain rfl : uv22 = G (7 * dn + ea) := euv22.trans (by rw [nI_clamp (by omega)]; exact hG2 _ (by omega))
                  refine lv_iload (pc := 152) hx hb dX12_gossips_152 (lv_at hl 0 rfl) ?_
                  refine lv_icmp_ne (tgt := 180) (pc := 154) hx hb dX12_gossips_154 rfl (fun c23 => ?_) (fun c23 => ?_)
                  · refine lv_iconst (v := 0) (pc := 180) hx hb dX12_gossips_180 (by decide) ?_
                    refine lv_istore (lv' := [(9, .int 0), (8, .int (G (7 * dn + ea) ||| G (7 * dn + eb))), (7, .int (nI (12 * v + i))), (0, .ref h0), (1, .int (nI v)), (2, .int (nI dn)), (3, .int 5), (4, .int (nI (7 * dn))), (5, .int 0), (6, .int (nI i))]) (pc := 181) hx hb dX12_gossips_181 hl (by decide) rfl (fun ls hl => ?_)
                    have loop3 : ∀ (fx : Nat) (y : Nat) (G3 : Nat → Int32), (pp < fx + y) → (y ≤ pp) → (∀ x : Nat, x < 7 * (dn + 1) → G3 x = G x) → (∀ z : Nat, z < y → G3 (7 * dn + 7 + z) = gaft (rwt G dn) ea eb z) → ∀ (H : Heap) (locs : List Loc) (ls : Array Slot), WD g A s H locs [(h0, .inr (12, [.int i0, .ref b1, .int i2, .int i3, .int i4, .int i5, .ref b6, .ref b7, .ref b8, .ref b9, .ref b10, .ref b11, .ref b12, .ref b13, .ref b14, .ref b15, .ref b16, .ref b17, .int i18, .int i19, .int i20, .ref b21, .ref b22, .ref b23, .ref b24, .ref b25, .ref b26, .int i27, .ref b28, .ref b29, .ref b30, .ref b31, .ref b32, .ref b33, .ref b34, .ref b35, .ref b36, .int i37, .int i38, .int i39, .int i40, .int i41, .int i42, .int i43, .int i44, .int i45, .ref b46, .ref b47, .ref b48, .ref b49, .ref b50, .ref b51, .ref b52, .ref b53, .ref b54, .ref b55, .ref b56, .ref b57, .ref b58, .ref b59, .ref b60, .ref b61, .ref b62, .ref b63])), (b6, .inl (g.2.1 1, 11, .inl P)), (b7, .inl (g.2.1 1, 11, .inl Lc)), (b12, .inl (g.2.1 1, 132, .inl La)), (b13, .inl (g.2.1 1, 132, .inl Lb)), (b48, .inl (g.2.1 3, 12, .inl lw)), (b46, .inl (g.2.1 1, 112, .inl G3)), (b47, .inl (g.2.1 1, 16, .inl gr))] → lv_has ls 10 [(0, .ref h0), (1, .int (nI v)), (2, .int (nI dn)), (3, .int 5), (4, .int (nI (7 * dn))), (5, .int 0), (6, .int (nI i)), (7, .int (nI (12 * v + i))), (8, .int (G (7 * dn + ea) ||| G (7 * dn + eb))), (9, .int (nI y))] → W p l e (RM 6 0 0) s m args below meth c H locs 0 0 Q (F0 m 183 ls []) := by
                      intro fx
                      induction fx with
                      | zero =>
                        intro y G3 hm3 hy hG3 hC
                        exact absurd hm3 (by omega)
                      | succ fx ih3 =>
                        intro y G3 hm3 hy hG3 hC H locs ls hW hl
                        refine lv_iload (pc := 183) hx hb dX12_gossips_183 (lv_at hl 9 rfl) ?_
                        refine lv_aload_n (pc := 185) hx hb dX12_gossips_185 rfl (lv_at hl 0 rfl) ?_
                        refine r_get X hW 0 ciX12 6 rfl (by decide) m_1237 rfl rfl dX12_gossips_186 ?_
                        refine lv_iload_n (pc := 189) hx hb dX12_gossips_189 rfl (lv_at hl 1 rfl) ?_
                        refine r_iald X hW 1 rfl (vp_in_nI (by omega) (by decide)) dX12_gossips_190 ?_
                        refine lv_topi (fun uv24 euv24 => ?_)
                        obtain rfl : uv24 = nI pp := euv24.trans (by rw [nI_clamp (by omega)]; exact hP)
                        refine lv_icmp_ge (tgt := 252) (pc := 191) hx hb dX12_gossips_191 rfl (fun c25 => ?_) (fun c25 => ?_)
                        · have hyk : y = pp := Nat.le_antisymm hy (ge_t (by omega) (by omega) c25)
                          rw [hyk] at hC
                          refine lv_aload_n (pc := 252) hx hb dX12_gossips_252 rfl (lv_at hl 0 rfl) ?_
                          refine r_get X hW 0 ciX12 47 rfl (by decide) m_1274 rfl rfl dX12_gossips_253 ?_
                          refine lv_iload_n (pc := 256) hx hb dX12_gossips_256 rfl (lv_at hl 2 rfl) ?_
                          refine lv_iload (pc := 257) hx hb dX12_gossips_257 (lv_at hl 6 rfl) ?_
                          obtain ⟨f26, ef26⟩ : ∃ fz : Nat → Int32, upd gr (nI dn).toNatClampNeg (nI i) = fz := ⟨_, rfl⟩
                          refine r_iast (ws' := [(h0, .inr (12, [.int i0, .ref b1, .int i2, .int i3, .int i4, .int i5, .ref b6, .ref b7, .ref b8, .ref b9, .ref b10, .ref b11, .ref b12, .ref b13, .ref b14, .ref b15, .ref b16, .ref b17, .int i18, .int i19, .int i20, .ref b21, .ref b22, .ref b23, .ref b24, .ref b25, .ref b26, .int i27, .ref b28, .ref b29, .ref b30, .ref b31, .ref b32, .ref b33, .ref b34, .ref b35, .ref b36, .int i37, .int i38, .int i39, .int i40, .int i41, .int i42, .int i43, .int i44, .int i45, .ref b46, .ref b47, .ref b48, .ref b49, .ref b50, .ref b51, .ref b52, .ref b53, .ref b54, .ref b55, .ref b56, .ref b57, .ref b58, .ref b59, .ref b60, .ref b61, .ref b62, .ref b63])), (b6, .inl (g.2.1 1, 11, .inl P)), (b7, .inl (g.2.1 1, 11, .inl Lc)), (b12, .inl (g.2.1 1, 132, .inl La)), (b13, .inl (g.2.1 1, 132, .inl Lb)), (b48, .inl (g.2.1 3, 12, .inl lw)), (b46, .inl (g.2.1 1, 112, .inl G3)), (b47, .inl (g.2.1 1, 16, .inl f26))]) X hW 7 rfl (vp_in_nI (by omega) (by decide)) ef26 rfl dX12_gossips_259 (fun H locs hW => ?_)
                          have hg_f26 : gb16 f26 := by rw [← ef26]; exact gb16_upd hgr (by omega)
                          refine lv_aload_n (pc := 260) hx hb dX12_gossips_260 rfl (lv_at hl 0 rfl) ?_
                          refine lv_iload_n (pc := 261) hx hb dX12_gossips_261 rfl (lv_at hl 1 rfl) ?_
                          refine lv_iload_n (pc := 262) hx hb dX12_gossips_262 rfl (lv_at hl 2 rfl) ?_
                          refine lv_iconst (v := 1) (pc := 263) hx hb dX12_gossips_263 (by decide) ?_
                          refine lv_iadd (pc := 264) hx hb dX12_gossips_264 ?_
                          refine lv_topi (fun uv27 euv27 => ?_)
                          obtain rfl : uv27 = nI (dn + 1) := euv27.trans (nI_1 _)
                          refine lv_iload_n (pc := 265) hx hb dX12_gossips_265 rfl (lv_at hl 3 rfl) ?_
                          refine lv_iconst (v := 1) (pc := 266) hx hb dX12_gossips_266 (by decide) ?_
                          refine lv_isub (pc := 267) hx hb dX12_gossips_267 ?_
                          refine lv_topi (fun uv28 euv28 => ?_)
                          obtain rfl : uv28 = 4 := euv28.trans (by decide +kernel)
                          refine c_Vi (pc := 268) (As := [.int (nI v), .int (nI (dn + 1)), .int 4]) (rest := []) (wr := []) X hW 0 ciX12 rfl (C_X12_gossips_4 l g h0 b1 b6 b7 b8 b9 b10 b11 b12 b13 b14 b15 b16 b17 b21 b22 b23 b24 b25 b26 b28 b29 b30 b31 b32 b33 b34 b35 b36 b46 b47 b48 b49 b50 b51 b52 b53 b54 b55 b56 b57 b58 b59 b60 b61 b62 b63 i0 i2 i3 i4 i5 i18 i19 i20 i27 i37 i38 i39 i40 i41 i42 i43 i44 i45 P Lc La Lb lw G3 f26 v lc pp (dn + 1) hv hlc hpp hP hLc hLA hLB hg_f26 (by omega)) vX12_346 [0, 1, 2, 3, 4, 5, 6, 7] [] rfl rfl rfl rfl rfl rfl hl.1 rfl (Nat.le_of_ble_eq_true rfl) ⟨Nat.le_of_ble_eq_true rfl, Nat.le_of_ble_eq_true rfl⟩ ⟨Nat.le_of_ble_eq_true rfl, Nat.le_of_ble_eq_true rfl⟩ dX12_gossips_268 (fun r31 u9 H locs hq hW => ?_)
                          obtain ⟨gq29, gw30, -, hq1_gq29, hq2_gq29, hgw30, rfl⟩ := hq
                          have hW : WD g A s _ _ [(h0, .inr (12, [.int i0, .ref b1, .int i2, .int i3, .int i4, .int i5, .ref b6, .ref b7, .ref b8, .ref b9, .ref b10, .ref b11, .ref b12, .ref b13, .ref b14, .ref b15, .ref b16, .ref b17, .int i18, .int i19, .int i20, .ref b21, .ref b22, .ref b23, .ref b24, .ref b25, .ref b26, .int i27, .ref b28, .ref b29, .ref b30, .ref b31, .ref b32, .ref b33, .ref b34, .ref b35, .ref b36, .int i37, .int i38, .int i39, .int i40, .int i41, .int i42, .int i43, .int i44, .int i45, .ref b46, .ref b47, .ref b48, .ref b49, .ref b50, .ref b51, .ref b52, .ref b53, .ref b54, .ref b55, .ref b56, .ref b57, .ref b58, .ref b59, .ref b60, .ref b61, .ref b62, .ref b63])), (b6, .inl (g.2.1 1, 11, .inl P)), (b7, .inl (g.2.1 1, 11, .inl Lc)), (b12, .inl (g.2.1 1, 132, .inl La)), (b13, .inl (g.2.1 1, 132, .inl Lb)), (b48, .inl (g.2.1 3, 12, .inl lw)), (b46, .inl (g.2.1 1, 112, .inl gq29)), (b47, .inl (g.2.1 1, 16, .inl gw30))] := hW
                          refine lv_if_eq (tgt := 276) (pc := 271) hx hb dX12_gossips_271 rfl (fun c32 => ?_) (fun c32 => ?_)
                          · refine lv_iinc (v := nI (i + 1)) (lv' := [(6, .int (nI (i + 1))), (0, .ref h0), (1, .int (nI v)), (2, .int (nI dn)), (3, .int 5), (4, .int (nI (7 * dn))), (5, .int 0), (7, .int (nI (12 * v + i))), (8, .int (G (7 * dn + ea) ||| G (7 * dn + eb))), (9, .int (nI y))]) (pc := 276) hx hb dX12_gossips_276 hl (k := 6) rfl ((nI_succ i).symm) (by decide) rfl (fun ls hl => ?_)
                            refine lv_goto (tgt := 74) (pc := 279) hx hb dX12_gossips_279 rfl ?_
                            have hW : WD g A s _ _ [(h0, .inr (12, [.int i0, .ref b1, .int i2, .int i3, .int i4, .int i5, .ref b6, .ref b7, .ref b8, .ref b9, .ref b10, .ref b11, .ref b12, .ref b13, .ref b14, .ref b15, .ref b16, .ref b17, .int i18, .int i19, .int i20, .ref b21, .ref b22, .ref b23, .ref b24, .ref b25, .ref b26, .int i27, .ref b28, .ref b29, .ref b30, .ref b31, .ref b32, .ref b33, .ref b34, .ref b35, .ref b36, .int i37, .int i38, .int i39, .int i40, .int i41, .int i42, .int i43, .int i44, .int i45, .ref b46, .ref b47, .ref b48, .ref b49, .ref b50, .ref b51, .ref b52, .ref b53, .ref b54, .ref b55, .ref b56, .ref b57, .ref b58, .ref b59, .ref b60, .ref b61, .ref b62, .ref b63])), (b6, .inl (g.2.1 1, 11, .inl P)), (b7, .inl (g.2.1 1, 11, .inl Lc)), (b12, .inl (g.2.1 1, 132, .inl La)), (b13, .inl (g.2.1 1, 132, .inl Lb)), (b48, .inl (g.2.1 3, 12, .inl lw)), (b46, .inl (g.2.1 1, 112, .inl gq29)), (b47, .inl (g.2.1 1, 16, .inl gw30))] := hW.pick [0, 1, 2, 3, 4, 5, 6, 7] rfl rfl
                            exact ih2 (i + 1) gq29 gw30 (by omega) (by omega) (fun x hx => (hq2_gq29 x (by omega)).trans (hG3 x hx)) hgw30 (gno_s hno (by omega) hea heb eA eB (fun ha9 hb9 hw9 hu9 => fun hg9 => absurd (hq1_gq29 (gok_cong hg9 (fun o ho => (hC o ho).symm))) (by rw [c32]; decide))) _ _ _ hW (lv_sub hl [1, 2, 3, 4, 5, 6, 0] rfl)
                          · refine lv_iconst (v := 1) (pc := 274) hx hb dX12_gossips_274 (by decide) ?_
                            exact e_z X hQ hr hW (u := [(h0, .inr (12, [.int i0, .ref b1, .int i2, .int i3, .int i4, .int i5, .ref b6, .ref b7, .ref b8, .ref b9, .ref b10, .ref b11, .ref b12, .ref b13, .ref b14, .ref b15, .ref b16, .ref b17, .int i18, .int i19, .int i20, .ref b21, .ref b22, .ref b23, .ref b24, .ref b25, .ref b26, .int i27, .ref b28, .ref b29, .ref b30, .ref b31, .ref b32, .ref b33, .ref b34, .ref b35, .ref b36, .int i37, .int i38, .int i39, .int i40, .int i41, .int i42, .int i43, .int i44, .int i45, .ref b46, .ref b47, .ref b48, .ref b49, .ref b50, .ref b51, .ref b52, .ref b53, .ref b54, .ref b55, .ref b56, .ref b57, .ref b58, .ref b59, .ref b60, .ref b61, .ref b62, .ref b63])), (b6, .inl (g.2.1 1, 11, .inl P)), (b7, .inl (g.2.1 1, 11, .inl Lc)), (b12, .inl (g.2.1 1, 132, .inl La)), (b13, .inl (g.2.1 1, 132, .inl Lb)), (b48, .inl (g.2.1 3, 12, .inl lw)), (b46, .inl (g.2.1 1, 112, .inl gq29)), (b47, .inl (g.2.1 1, 16, .inl gw30))]) rfl [0, 1, 2, 3, 4, 5, 6, 7] rfl rfl (⟨_, _, Or.inr rfl, fun _ => rfl, fun x hx => (hq2_gq29 x (by omega)).trans (hG3 x hx), hgw30, rfl⟩) ⟨Nat.le_of_ble_eq_true rfl, Nat.le_of_ble_eq_true rfl⟩ dX12_gossips_275
                        · have hyl : y < pp := ge_f (by omega) (by omega) c25
                          refine lv_aload_n (pc := 194) hx hb dX12_gossips_194 rfl (lv_at hl 0 rfl) ?_
                          refine r_get X hW 0 ciX12 46 rfl (by decide) m_1273 rfl rfl dX12_gossips_195 ?_
                          refine lv_iload (pc := 198) hx hb dX12_gossips_198 (lv_at hl 4 rfl) ?_
                          refine lv_bipush (v := 7) (pc := 200) hx hb dX12_gossips_200 (by decide) ?_
                          refine lv_iadd (pc := 202) hx hb dX12_gossips_202 ?_
                          refine lv_topi (fun uv33 euv33 => ?_)
                          obtain rfl : uv33 = nI (7 * dn + 7) := euv33.trans (nI_add _ _)
                          refine lv_iload (pc := 203) hx hb dX12_gossips_203 (lv_at hl 9 rfl) ?_
                          refine lv_iadd (pc := 205) hx hb dX12_gossips_205 ?_
                          refine lv_topi (fun uv34 euv34 => ?_)
                          obtain rfl : uv34 = nI (7 * dn + 7 + y) := euv34.trans (nI_add _ _)
                          refine lv_iload (pc := 206) hx hb dX12_gossips_206 (lv_at hl 9 rfl) ?_
                          refine lv_aload_n (pc := 208) hx hb dX12_gossips_208 rfl (lv_at hl 0 rfl) ?_
                          refine r_get X hW 0 ciX12 12 rfl (by decide) m_1243 rfl rfl dX12_gossips_209 ?_
                          refine lv_iload (pc := 212) hx hb dX12_gossips_212 (lv_at hl 7 rfl) ?_
                          refine r_iald X hW 3 rfl (vp_in_nI (by omega) (by decide)) dX12_gossips_214 ?_
                          refine lv_topi (fun uv35 euv35 => ?_)
                          obtain rfl : uv35 = nI ea := euv35.trans (by rw [nI_clamp (by omega)]; exact eA)
                          refine lv_icmp_eq (tgt := 230) (pc := 215) hx hb dX12_gossips_215 rfl (fun c36 => ?_) (fun c36 => ?_)
                          · refine lv_iload (pc := 230) hx hb dX12_gossips_230 (lv_at hl 8 rfl) ?_
                            refine lv_goto (tgt := 245) (pc := 232) hx hb dX12_gossips_232 rfl ?_
                            obtain ⟨f37, ef37⟩ : ∃ fz : Nat → Int32, upd G3 (nI (7 * dn + 7 + y)).toNatClampNeg (G (7 * dn + ea) ||| G (7 * dn + eb)) = fz := ⟨_, rfl⟩
                            refine r_iast (ws' := [(h0, .inr (12, [.int i0, .ref b1, .int i2, .int i3, .int i4, .int i5, .ref b6, .ref b7, .ref b8, .ref b9, .ref b10, .ref b11, .ref b12, .ref b13, .ref b14, .ref b15, .ref b16, .ref b17, .int i18, .int i19, .int i20, .ref b21, .ref b22, .ref b23, .ref b24, .ref b25, .ref b26, .int i27, .ref b28, .ref b29, .ref b30, .ref b31, .ref b32, .ref b33, .ref b34, .ref b35, .ref b36, .int i37, .int i38, .int i39, .int i40, .int i41, .int i42, .int i43, .int i44, .int i45, .ref b46, .ref b47, .ref b48, .ref b49, .ref b50, .ref b51, .ref b52, .ref b53, .ref b54, .ref b55, .ref b56, .ref b57, .ref b58, .ref b59, .ref b60, .ref b61, .ref b62, .ref b63])), (b6, .inl (g.2.1 1, 11, .inl P)), (b7, .inl (g.2.1 1, 11, .inl Lc)), (b12, .inl (g.2.1 1, 132, .inl La)), (b13, .inl (g.2.1 1, 132, .inl Lb)), (b48, .inl (g.2.1 3, 12, .inl lw)), (b46, .inl (g.2.1 1, 112, .inl f37)), (b47, .inl (g.2.1 1, 16, .inl gr))]) X hW 6 rfl (vp_in_nI (by omega) (by decide)) ef37 rfl dX12_gossips_245 (fun H locs hW => ?_)
                            refine lv_iinc (v := nI (y + 1)) (lv' := [(9, .int (nI (y + 1))), (0, .ref h0), (1, .int (nI v)), (2, .int (nI dn)), (3, .int 5), (4, .int (nI (7 * dn))), (5, .int 0), (6, .int (nI i)), (7, .int (nI (12 * v + i))), (8, .int (G (7 * dn + ea) ||| G (7 * dn + eb)))]) (pc := 246) hx hb dX12_gossips_246 hl (k := 9) rfl ((nI_succ y).symm) (by decide) rfl (fun ls hl => ?_)
                            refine lv_goto (tgt := 183) (pc := 249) hx hb dX12_gossips_249 rfl ?_
                            have hW : WD g A s _ _ [(h0, .inr (12, [.int i0, .ref b1, .int i2, .int i3, .int i4, .int i5, .ref b6, .ref b7, .ref b8, .ref b9, .ref b10, .ref b11, .ref b12, .ref b13, .ref b14, .ref b15, .ref b16, .ref b17, .int i18, .int i19, .int i20, .ref b21, .ref b22, .ref b23, .ref b24, .ref b25, .ref b26, .int i27, .ref b28, .ref b29, .ref b30, .ref b31, .ref b32, .ref b33, .ref b34, .ref b35, .ref b36, .int i37, .int i38, .int i39, .int i40, .int i41, .int i42, .int i43, .int i44, .int i45, .ref b46, .ref b47, .ref b48, .ref b49, .ref b50, .ref b51, .ref b52, .ref b53, .ref b54, .ref b55, .ref b56, .ref b57, .ref b58, .ref b59, .ref b60, .ref b61, .ref b62, .ref b63])), (b6, .inl (g.2.1 1, 11, .inl P)), (b7, .inl (g.2.1 1, 11, .inl Lc)), (b12, .inl (g.2.1 1, 132, .inl La)), (b13, .inl (g.2.1 1, 132, .inl Lb)), (b48, .inl (g.2.1 3, 12, .inl lw)), (b46, .inl (g.2.1 1, 112, .inl f37)), (b47, .inl (g.2.1 1, 16, .inl gr))] := hW.pick [0, 1, 2, 3, 4, 5, 6, 7] rfl rfl
                            exact ih3 (y + 1) f37 (by omega) (by omega) (fun x hx => by
                                rw [← ef37, nI_clamp (by omega)]
                                simp only [upd, show ¬ x = 7 * dn + 7 + y by omega, if_false]
                                exact hG3 x hx) (fun z hz => by
                                rw [← ef37, nI_clamp (by omega)]
                                by_cases e9 : z = y
                                · subst e9; simp only [upd, if_true]; rw [gaft, if_pos (Or.inl (nI_inj6 (by omega) (by omega) c36))]; rfl
                                · simp only [upd, show ¬ 7 * dn + 7 + z = 7 * dn + 7 + y by omega, if_false]; exact hC z (by omega)) _ _ _ hW (lv_sub hl [1, 2, 3, 4, 5, 6, 7, 8, 9, 0] rfl)
                          · refine lv_iload (pc := 218) hx hb dX12_gossips_218 (lv_at hl 9 rfl) ?_
                            refine lv_aload_n (pc := 220) hx hb dX12_gossips_220 rfl (lv_at hl 0 rfl) ?_
                            refine r_get X hW 0 ciX12 13 rfl (by decide) m_1244 rfl rfl dX12_gossips_221 ?_
                            refine lv_iload (pc := 224) hx hb dX12_gossips_224 (lv_at hl 7 rfl) ?_
                            refine r_iald X hW 4 rfl (vp_in_nI (by omega) (by decide)) dX12_gossips_226 ?_
                            refine lv_topi (fun uv38 euv38 => ?_)
                            obtain rfl : uv38 = nI eb := euv38.trans (by rw [nI_clamp (by omega)]; exact eB)
                            refine lv_icmp_ne (tgt := 235) (pc := 227) hx hb dX12_gossips_227 rfl (fun c39 => ?_) (fun c39 => ?_)
                            · refine lv_aload_n (pc := 235) hx hb dX12_gossips_235 rfl (lv_at hl 0 rfl) ?_
                              refine r_get X hW 0 ciX12 46 rfl (by decide) m_1273 rfl rfl dX12_gossips_236 ?_
                              refine lv_iload (pc := 239) hx hb dX12_gossips_239 (lv_at hl 4 rfl) ?_
                              refine lv_iload (pc := 241) hx hb dX12_gossips_241 (lv_at hl 9 rfl) ?_
                              refine lv_iadd (pc := 243) hx hb dX12_gossips_243 ?_
                              refine lv_topi (fun uv40 euv40 => ?_)
                              obtain rfl : uv40 = nI (7 * dn + y) := euv40.trans (nI_add _ _)
                              refine r_iald X hW 6 rfl (vp_in_nI (by omega) (by decide)) dX12_gossips_244 ?_
                              refine lv_topi (fun uv41 euv41 => ?_)
                              obtain rfl : uv41 = G (7 * dn + y) := euv41.trans (by rw [nI_clamp (by omega)]; exact hG3 _ (by omega))
                              obtain ⟨f42, ef42⟩ : ∃ fz : Nat → Int32, upd G3 (nI (7 * dn + 7 + y)).toNatClampNeg (G (7 * dn + y)) = fz := ⟨_, rfl⟩
                              refine r_iast (ws' := [(h0, .inr (12, [.int i0, .ref b1, .int i2, .int i3, .int i4, .int i5, .ref b6, .ref b7, .ref b8, .ref b9, .ref b10, .ref b11, .ref b12, .ref b13, .ref b14, .ref b15, .ref b16, .ref b17, .int i18, .int i19, .int i20, .ref b21, .ref b22, .ref b23, .ref b24, .ref b25, .ref b26, .int i27, .ref b28, .ref b29, .ref b30, .ref b31, .ref b32, .ref b33, .ref b34, .ref b35, .ref b36, .int i37, .int i38, .int i39, .int i40, .int i41, .int i42, .int i43, .int i44, .int i45, .ref b46, .ref b47, .ref b48, .ref b49, .ref b50, .ref b51, .ref b52, .ref b53, .ref b54, .ref b55, .ref b56, .ref b57, .ref b58, .ref b59, .ref b60, .ref b61, .ref b62, .ref b63])), (b6, .inl (g.2.1 1, 11, .inl P)), (b7, .inl (g.2.1 1, 11, .inl Lc)), (b12, .inl (g.2.1 1, 132, .inl La)), (b13, .inl (g.2.1 1, 132, .inl Lb)), (b48, .inl (g.2.1 3, 12, .inl lw)), (b46, .inl (g.2.1 1, 112, .inl f42)), (b47, .inl (g.2.1 1, 16, .inl gr))]) X hW 6 rfl (vp_in_nI (by omega) (by decide)) ef42 rfl dX12_gossips_245 (fun H locs hW => ?_)
                              refine lv_iinc (v := nI (y + 1)) (lv' := [(9, .int (nI (y + 1))), (0, .ref h0), (1, .int (nI v)), (2, .int (nI dn)), (3, .int 5), (4, .int (nI (7 * dn))), (5, .int 0), (6, .int (nI i)), (7, .int (nI (12 * v + i))), (8, .int (G (7 * dn + ea) ||| G (7 * dn + eb)))]) (pc := 246) hx hb dX12_gossips_246 hl (k := 9) rfl ((nI_succ y).symm) (by decide) rfl (fun ls hl => ?_)
                              refine lv_goto (tgt := 183) (pc := 249) hx hb dX12_gossips_249 rfl ?_
                              have hW : WD g A s _ _ [(h0, .inr (12, [.int i0, .ref b1, .int i2, .int i3, .int i4, .int i5, .ref b6, .ref b7, .ref b8, .ref b9, .ref b10, .ref b11, .ref b12, .ref b13, .ref b14, .ref b15, .ref b16, .ref b17, .int i18, .int i19, .int i20, .ref b21, .ref b22, .ref b23, .ref b24, .ref b25, .ref b26, .int i27, .ref b28, .ref b29, .ref b30, .ref b31, .ref b32, .ref b33, .ref b34, .ref b35, .ref b36, .int i37, .int i38, .int i39, .int i40, .int i41, .int i42, .int i43, .int i44, .int i45, .ref b46, .ref b47, .ref b48, .ref b49, .ref b50, .ref b51, .ref b52, .ref b53, .ref b54, .ref b55, .ref b56, .ref b57, .ref b58, .ref b59, .ref b60, .ref b61, .ref b62, .ref b63])), (b6, .inl (g.2.1 1, 11, .inl P)), (b7, .inl (g.2.1 1, 11, .inl Lc)), (b12, .inl (g.2.1 1, 132, .inl La)), (b13, .inl (g.2.1 1, 132, .inl Lb)), (b48, .inl (g.2.1 3, 12, .inl lw)), (b46, .inl (g.2.1 1, 112, .inl f42)), (b47, .inl (g.2.1 1, 16, .inl gr))] := hW.pick [0, 1, 2, 3, 4, 5, 6, 7] rfl rfl
                              exact ih3 (y + 1) f42 (by omega) (by omega) (fun x hx => by
                                  rw [← ef42, nI_clamp (by omega)]
                                  simp only [upd, show ¬ x = 7 * dn + 7 + y by omega, if_false]
                                  exact hG3 x hx) (fun z hz => by
                                  rw [← ef42, nI_clamp (by omega)]
                                  by_cases e9 : z = y
                                  · subst e9; simp only [upd, if_true]; rw [gaft, if_neg (fun q => q.elim (fun r => c36 (congrArg nI r)) (fun r => c39 (congrArg nI r)))]; rfl
                                  · simp only [upd, show ¬ 7 * dn + 7 + z = 7 * dn + 7 + y by omega, if_false]; exact hC z (by omega)) _ _ _ hW (lv_sub hl [1, 2, 3, 4, 5, 6, 7, 8, 9, 0] rfl)
                            · refine lv_iload (pc := 230) hx hb dX12_gossips_230 (lv_at hl 8 rfl) ?_
                              refine lv_goto (tgt := 245) (pc := 232) hx hb dX12_gossips_232 rfl ?_
                              obtain ⟨f43, ef43⟩ : ∃ fz : Nat → Int32, upd G3 (nI (7 * dn + 7 + y)).toNatClampNeg (G (7 * dn + ea) ||| G (7 * dn + eb)) = fz := ⟨_, rfl⟩
                              refine r_iast (ws' := [(h0, .inr (12, [.int i0, .ref b1, .int i2, .int i3, .int i4, .int i5, .ref b6, .ref b7, .ref b8, .ref b9, .ref b10, .ref b11, .ref b12, .ref b13, .ref b14, .ref b15, .ref b16, .ref b17, .int i18, .int i19, .int i20, .ref b21, .ref b22, .ref b23, .ref b24, .ref b25, .ref b26, .int i27, .ref b28, .ref b29, .ref b30, .ref b31, .ref b32, .ref b33, .ref b34, .ref b35, .ref b36, .int i37, .int i38, .int i39, .int i40, .int i41, .int i42, .int i43, .int i44, .int i45, .ref b46, .ref b47, .ref b48, .ref b49, .ref b50, .ref b51, .ref b52, .ref b53, .ref b54, .ref b55, .ref b56, .ref b57, .ref b58, .ref b59, .ref b60, .ref b61, .ref b62, .ref b63])), (b6, .inl (g.2.1 1, 11, .inl P)), (b7, .inl (g.2.1 1, 11, .inl Lc)), (b12, .inl (g.2.1 1, 132, .inl La)), (b13, .inl (g.2.1 1, 132, .inl Lb)), (b48, .inl (g.2.1 3, 12, .inl lw)), (b46, .inl (g.2.1 1, 112, .inl f43)), (b47, .inl (g.2.1 1, 16, .inl gr))]) X hW 6 rfl (vp_in_nI (by omega) (by decide)) ef43 rfl dX12_gossips_245 (fun H locs hW => ?_)
                              refine lv_iinc (v := nI (y + 1)) (lv' := [(9, .int (nI (y + 1))), (0, .ref h0), (1, .int (nI v)), (2, .int (nI dn)), (3, .int 5), (4, .int (nI (7 * dn))), (5, .int 0), (6, .int (nI i)), (7, .int (nI (12 * v + i))), (8, .int (G (7 * dn + ea) ||| G (7 * dn + eb)))]) (pc := 246) hx hb dX12_gossips_246 hl (k := 9) rfl ((nI_succ y).symm) (by decide) rfl (fun ls hl => ?_)
                              refine lv_goto (tgt := 183) (pc := 249) hx hb dX12_gossips_249 rfl ?_
                              have hW : WD g A s _ _ [(h0, .inr (12, [.int i0, .ref b1, .int i2, .int i3, .int i4, .int i5, .ref b6, .ref b7, .ref b8, .ref b9, .ref b10, .ref b11, .ref b12, .ref b13, .ref b14, .ref b15, .ref b16, .ref b17, .int i18, .int i19, .int i20, .ref b21, .ref b22, .ref b23, .ref b24, .ref b25, .ref b26, .int i27, .ref b28, .ref b29, .ref b30, .ref b31, .ref b32, .ref b33, .ref b34, .ref b35, .ref b36, .int i37, .int i38, .int i39, .int i40, .int i41, .int i42, .int i43, .int i44, .int i45, .ref b46, .ref b47, .ref b48, .ref b49, .ref b50, .ref b51, .ref b52, .ref b53, .ref b54, .ref b55, .ref b56, .ref b57, .ref b58, .ref b59, .ref b60, .ref b61, .ref b62, .ref b63])), (b6, .inl (g.2.1 1, 11, .inl P)), (b7, .inl (g.2.1 1, 11, .inl Lc)), (b12, .inl (g.2.1 1, 132, .inl La)), (b13, .inl (g.2.1 1, 132, .inl Lb)), (b48, .inl (g.2.1 3, 12, .inl lw)), (b46, .inl (g.2.1 1, 112, .inl f43)), (b47, .inl (g.2.1 1, 16, .inl gr))] := hW.pick [0, 1, 2, 3, 4, 5, 6, 7] rfl rfl
                              exact ih3 (y + 1) f43 (by omega) (by omega) (fun x hx => by
                                  rw [← ef43, nI_clamp (by omega)]
                                  simp only [upd, show ¬ x = 7 * dn + 7 + y by omega, if_false]
                                  exact hG3 x hx) (fun z hz => by
                                  rw [← ef43, nI_clamp (by omega)]
                                  by_cases e9 : z = y
                                  · subst e9; simp only [upd, if_true]; rw [gaft, if_pos (Or.inr (nI_inj6 (by omega) (by omega) c39))]; rfl
                                  · simp only [upd, show ¬ 7 * dn + 7 + z = 7 * dn + 7 + y by omega, if_false]; exact hC z (by omega)) _ _ _ hW (lv_sub hl [1, 2, 3, 4, 5, 6, 7, 8, 9, 0] rfl)
                    exact loop3 (pp + 1) 0 G2 (by omega) (Nat.zero_le _) hG2 (fun z hz => absurd hz (Nat.not_lt_zero z)) _ _ _ hW (lv_sub hl [3, 4, 5, 6, 7, 8, 9, 2, 1, 0] rfl)
                  · have h_eA := c23
                    refine lv_aload_n (pc := 157) hx hb dX12_gossips_157 rfl (lv_at hl 2 rfl) ?_
                    refine r_get X hW 0 ciX12 46 rfl (by decide) m_1273 rfl rfl dX12_gossips_158 ?_
                    refine lv_iload (pc := 161) hx hb dX12_gossips_161 (lv_at hl 6 rfl) ?_
                    refine lv_aload_n (pc := 163) hx hb dX12_gossips_163 rfl (lv_at hl 2 rfl) ?_
                    refine r_get X hW 0 ciX12 13 rfl (by decide) m_1244 rfl rfl dX12_gossips_164 ?_
                    refine lv_iload (pc := 167) hx hb dX12_gossips_167 (lv_at hl 1 rfl) ?_
                    refine r_iald X hW 4 rfl (vp_in_nI (by omega) (by decide)) dX12_gossips_169 ?_
                    refine lv_topi (fun uv44 euv44 => ?_)
                    obtain rfl : uv44 = nI eb := euv44.trans (by rw [nI_clamp (by omega)]; exact eB)
                    refine lv_iadd (pc := 170) hx hb dX12_gossips_170 ?_
                    refine lv_topi (fun uv45 euv45 => ?_)
                    obtain rfl : uv45 = nI (7 * dn + eb) := euv45.trans (nI_add _ _)
                    refine r_iald X hW 6 rfl (vp_in_nI (by omega) (by decide)) dX12_gossips_171 ?_
                    refine lv_topi (fun uv46 euv46 => ?_)
                    obtain rfl : uv46 = G (7 * dn + eb) := euv46.trans (by rw [nI_clamp (by omega)]; exact hG2 _ (by omega))
                    refine lv_iload (pc := 172) hx hb dX12_gossips_172 (lv_at hl 0 rfl) ?_
                    refine lv_icmp_ne (tgt := 180) (pc := 174) hx hb dX12_gossips_174 rfl (fun c47 => ?_) (fun c47 => ?_)
                    · refine lv_iconst (v := 0) (pc := 180) hx hb dX12_gossips_180 (by decide) ?_
                      refine lv_istore (lv' := [(9, .int 0), (8, .int (G (7 * dn + ea) ||| G (7 * dn + eb))), (7, .int (nI (12 * v + i))), (0, .ref h0), (1, .int (nI v)), (2, .int (nI dn)), (3, .int 5), (4, .int (nI (7 * dn))), (5, .int 0), (6, .int (nI i))]) (pc := 181) hx hb dX12_gossips_181 hl (by decide) rfl (fun ls hl => ?_)
                      have loop3 : ∀ (fx : Nat) (y : Nat) (G3 : Nat → Int32), (pp < fx + y) → (y ≤ pp) → (∀ x : Nat, x < 7 * (dn + 1) → G3 x = G x) → (∀ z : Nat, z < y → G3 (7 * dn + 7 + z) = gaft (rwt G dn) ea eb z) → ∀ (H : Heap) (locs : List Loc) (ls : Array Slot), WD g A s H locs [(h0, .inr (12, [.int i0, .ref b1, .int i2, .int i3, .int i4, .int i5, .ref b6, .ref b7, .ref b8, .ref b9, .ref b10, .ref b11, .ref b12, .ref b13, .ref b14, .ref b15, .ref b16, .ref b17, .int i18, .int i19, .int i20, .ref b21, .ref b22, .ref b23, .ref b24, .ref b25, .ref b26, .int i27, .ref b28, .ref b29, .ref b30, .ref b31, .ref b32, .ref b33, .ref b34, .ref b35, .ref b36, .int i37, .int i38, .int i39, .int i40, .int i41, .int i42, .int i43, .int i44, .int i45, .ref b46, .ref b47, .ref b48, .ref b49, .ref b50, .ref b51, .ref b52, .ref b53, .ref b54, .ref b55, .ref b56, .ref b57, .ref b58, .ref b59, .ref b60, .ref b61, .ref b62, .ref b63])), (b6, .inl (g.2.1 1, 11, .inl P)), (b7, .inl (g.2.1 1, 11, .inl Lc)), (b12, .inl (g.2.1 1, 132, .inl La)), (b13, .inl (g.2.1 1, 132, .inl Lb)), (b48, .inl (g.2.1 3, 12, .inl lw)), (b46, .inl (g.2.1 1, 112, .inl G3)), (b47, .inl (g.2.1 1, 16, .inl gr))] → lv_has ls 10 [(0, .ref h0), (1, .int (nI v)), (2, .int (nI dn)), (3, .int 5), (4, .int (nI (7 * dn))), (5, .int 0), (6, .int (nI i)), (7, .int (nI (12 * v + i))), (8, .int (G (7 * dn + ea) ||| G (7 * dn + eb))), (9, .int (nI y))] → W p l e (RM 6 0 0) s m args below meth c H locs 0 0 Q (F0 m 183 ls []) := by
                        intro fx
                        induction fx with
                        | zero =>
                          intro y G3 hm3 hy hG3 hC
                          exact absurd hm3 (by omega)
                        | succ fx ih3 =>
                          intro y G3 hm3 hy hG3 hC H locs ls hW hl
                          refine lv_iload (pc := 183) hx hb dX12_gossips_183 (lv_at hl 9 rfl) ?_
                          refine lv_aload_n (pc := 185) hx hb dX12_gossips_185 rfl (lv_at hl 0 rfl) ?_
                          refine r_get X hW 0 ciX12 6 rfl (by decide) m_1237 rfl rfl dX12_gossips_186 ?_
                          refine lv_iload_n (pc := 189) hx hb dX12_gossips_189 rfl (lv_at hl 1 rfl) ?_
                          refine r_iald X hW 1 rfl (vp_in_nI (by omega) (by decide)) dX12_gossips_190 ?_
                          refine lv_topi (fun uv48 euv48 => ?_)
                          obtain rfl : uv48 = nI pp := euv48.trans (by rw [nI_clamp (by omega)]; exact hP)
                          refine lv_icmp_ge (tgt := 252) (pc := 191) hx hb dX12_gossips_191 rfl (fun c49 => ?_) (fun c49 => ?_)
                          · have hyk : y = pp := Nat.le_antisymm hy (ge_t (by omega) (by omega) c49)
                            rw [hyk] at hC
                            refine lv_aload_n (pc := 252) hx hb dX12_gossips_252 rfl (lv_at hl 0 rfl) ?_
                            refine r_get X hW 0 ciX12 47 rfl (by decide) m_1274 rfl rfl dX12_gossips_253 ?_
                            refine lv_iload_n (pc := 256) hx hb dX12_gossips_256 rfl (lv_at hl 2 rfl) ?_
                            refine lv_iload (pc := 257) hx hb dX12_gossips_257 (lv_at hl 6 rfl) ?_
                            obtain ⟨f50, ef50⟩ : ∃ fz : Nat → Int32, upd gr (nI dn).toNatClampNeg (nI i) = fz := ⟨_, rfl⟩
                            refine r_iast (ws' := [(h0, .inr (12, [.int i0, .ref b1, .int i2, .int i3, .int i4, .int i5, .ref b6, .ref b7, .ref b8, .ref b9, .ref b10, .ref b11, .ref b12, .ref b13, .ref b14, .ref b15, .ref b16, .ref b17, .int i18, .int i19, .int i20, .ref b21, .ref b22, .ref b23, .ref b24, .ref b25, .ref b26, .int i27, .ref b28, .ref b29, .ref b30, .ref b31, .ref b32, .ref b33, .ref b34, .ref b35, .ref b36, .int i37, .int i38, .int i39, .int i40, .int i41, .int i42, .int i43, .int i44, .int i45, .ref b46, .ref b47, .ref b48, .ref b49, .ref b50, .ref b51, .ref b52, .ref b53, .ref b54, .ref b55, .ref b56, .ref b57, .ref b58, .ref b59, .ref b60, .ref b61, .ref b62, .ref b63])), (b6, .inl (g.2.1 1, 11, .inl P)), (b7, .inl (g.2.1 1, 11, .inl Lc)), (b12, .inl (g.2.1 1, 132, .inl La)), (b13, .inl (g.2.1 1, 132, .inl Lb)), (b48, .inl (g.2.1 3, 12, .inl lw)), (b46, .inl (g.2.1 1, 112, .inl G3)), (b47, .inl (g.2.1 1, 16, .inl f50))]) X hW 7 rfl (vp_in_nI (by omega) (by decide)) ef50 rfl dX12_gossips_259 (fun H locs hW => ?_)
                            have hg_f50 : gb16 f50 := by rw [← ef50]; exact gb16_upd hgr (by omega)
                            refine lv_aload_n (pc := 260) hx hb dX12_gossips_260 rfl (lv_at hl 0 rfl) ?_
                            refine lv_iload_n (pc := 261) hx hb dX12_gossips_261 rfl (lv_at hl 1 rfl) ?_
                            refine lv_iload_n (pc := 262) hx hb dX12_gossips_262 rfl (lv_at hl 2 rfl) ?_
                            refine lv_iconst (v := 1) (pc := 263) hx hb dX12_gossips_263 (by decide) ?_
                            refine lv_iadd (pc := 264) hx hb dX12_gossips_264 ?_
                            refine lv_topi (fun uv51 euv51 => ?_)
                            obtain rfl : uv51 = nI (dn + 1) := euv51.trans (nI_1 _)
                            refine lv_iload_n (pc := 265) hx hb dX12_gossips_265 rfl (lv_at hl 3 rfl) ?_
                            refine lv_iconst (v := 1) (pc := 266) hx hb dX12_gossips_266 (by decide) ?_
                            refine lv_isub (pc := 267) hx hb dX12_gossips_267 ?_
                            refine lv_topi (fun uv52 euv52 => ?_)
                            obtain rfl : uv52 = 4 := euv52.trans (by decide +kernel)
                            refine c_Vi (pc := 268) (As := [.int (nI v), .int (nI (dn + 1)), .int 4]) (rest := []) (wr := []) X hW 0 ciX12 rfl (C_X12_gossips_4 l g h0 b1 b6 b7 b8 b9 b10 b11 b12 b13 b14 b15 b16 b17 b21 b22 b23 b24 b25 b26 b28 b29 b30 b31 b32 b33 b34 b35 b36 b46 b47 b48 b49 b50 b51 b52 b53 b54 b55 b56 b57 b58 b59 b60 b61 b62 b63 i0 i2 i3 i4 i5 i18 i19 i20 i27 i37 i38 i39 i40 i41 i42 i43 i44 i45 P Lc La Lb lw G3 f50 v lc pp (dn + 1) hv hlc hpp hP hLc hLA hLB hg_f50 (by omega)) vX12_346 [0, 1, 2, 3, 4, 5, 6, 7] [] rfl rfl rfl rfl rfl rfl hl.1 rfl (Nat.le_of_ble_eq_true rfl) ⟨Nat.le_of_ble_eq_true rfl, Nat.le_of_ble_eq_true rfl⟩ ⟨Nat.le_of_ble_eq_true rfl, Nat.le_of_ble_eq_true rfl⟩ dX12_gossips_268 (fun r55 u9 H locs hq hW => ?_)
                            obtain ⟨gq53, gw54, -, hq1_gq53, hq2_gq53, hgw54, rfl⟩ := hq
                            have hW : WD g A s _ _ [(h0, .inr (12, [.int i0, .ref b1, .int i2, .int i3, .int i4, .int i5, .ref b6, .ref b7, .ref b8, .ref b9, .ref b10, .ref b11, .ref b12, .ref b13, .ref b14, .ref b15, .ref b16, .ref b17, .int i18, .int i19, .int i20, .ref b21, .ref b22, .ref b23, .ref b24, .ref b25, .ref b26, .int i27, .ref b28, .ref b29, .ref b30, .ref b31, .ref b32, .ref b33, .ref b34, .ref b35, .ref b36, .int i37, .int i38, .int i39, .int i40, .int i41, .int i42, .int i43, .int i44, .int i45, .ref b46, .ref b47, .ref b48, .ref b49, .ref b50, .ref b51, .ref b52, .ref b53, .ref b54, .ref b55, .ref b56, .ref b57, .ref b58, .ref b59, .ref b60, .ref b61, .ref b62, .ref b63])), (b6, .inl (g.2.1 1, 11, .inl P)), (b7, .inl (g.2.1 1, 11, .inl Lc)), (b12, .inl (g.2.1 1, 132, .inl La)), (b13, .inl (g.2.1 1, 132, .inl Lb)), (b48, .inl (g.2.1 3, 12, .inl lw)), (b46, .inl (g.2.1 1, 112, .inl gq53)), (b47, .inl (g.2.1 1, 16, .inl gw54))] := hW
                            refine lv_if_eq (tgt := 276) (pc := 271) hx hb dX12_gossips_271 rfl (fun c56 => ?_) (fun c56 => ?_)
                            · refine lv_iinc (v := nI (i + 1)) (lv' := [(6, .int (nI (i + 1))), (0, .ref h0), (1, .int (nI v)), (2, .int (nI dn)), (3, .int 5), (4, .int (nI (7 * dn))), (5, .int 0), (7, .int (nI (12 * v + i))), (8, .int (G (7 * dn + ea) ||| G (7 * dn + eb))), (9, .int (nI y))]) (pc := 276) hx hb dX12_gossips_276 hl (k := 6) rfl ((nI_succ i).symm) (by decide) rfl (fun ls hl => ?_)
                              refine lv_goto (tgt := 74) (pc := 279) hx hb dX12_gossips_279 rfl ?_
                              have hW : WD g A s _ _ [(h0, .inr (12, [.int i0, .ref b1, .int i2, .int i3, .int i4, .int i5, .ref b6, .ref b7, .ref b8, .ref b9, .ref b10, .ref b11, .ref b12, .ref b13, .ref b14, .ref b15, .ref b16, .ref b17, .int i18, .int i19, .int i20, .ref b21, .ref b22, .ref b23, .ref b24, .ref b25, .ref b26, .int i27, .ref b28, .ref b29, .ref b30, .ref b31, .ref b32, .ref b33, .ref b34, .ref b35, .ref b36, .int i37, .int i38, .int i39, .int i40, .int i41, .int i42, .int i43, .int i44, .int i45, .ref b46, .ref b47, .ref b48, .ref b49, .ref b50, .ref b51, .ref b52, .ref b53, .ref b54, .ref b55, .ref b56, .ref b57, .ref b58, .ref b59, .ref b60, .ref b61, .ref b62, .ref b63])), (b6, .inl (g.2.1 1, 11, .inl P)), (b7, .inl (g.2.1 1, 11, .inl Lc)), (b12, .inl (g.2.1 1, 132, .inl La)), (b13, .inl (g.2.1 1, 132, .inl Lb)), (b48, .inl (g.2.1 3, 12, .inl lw)), (b46, .inl (g.2.1 1, 112, .inl gq53)), (b47, .inl (g.2.1 1, 16, .inl gw54))] := hW.pick [0, 1, 2, 3, 4, 5, 6, 7] rfl rfl
                              exact ih2 (i + 1) gq53 gw54 (by omega) (by omega) (fun x hx => (hq2_gq53 x (by omega)).trans (hG3 x hx)) hgw54 (gno_s hno (by omega) hea heb eA eB (fun ha9 hb9 hw9 hu9 => fun hg9 => absurd (hq1_gq53 (gok_cong hg9 (fun o ho => (hC o ho).symm))) (by rw [c56]; decide))) _ _ _ hW (lv_sub hl [1, 2, 3, 4, 5, 6, 0] rfl)
                            · refine lv_iconst (v := 1) (pc := 274) hx hb dX12_gossips_274 (by decide) ?_
                              exact e_z X hQ hr hW (u := [(h0, .inr (12, [.int i0, .ref b1, .int i2, .int i3, .int i4, .int i5, .ref b6, .ref b7, .ref b8, .ref b9, .ref b10, .ref b11, .ref b12, .ref b13, .ref b14, .ref b15, .ref b16, .ref b17, .int i18, .int i19, .int i20, .ref b21, .ref b22, .ref b23, .ref b24, .ref b25, .ref b26, .int i27, .ref b28, .ref b29, .ref b30, .ref b31, .ref b32, .ref b33, .ref b34, .ref b35, .ref b36, .int i37, .int i38, .int i39, .int i40, .int i41, .int i42, .int i43, .int i44, .int i45, .ref b46, .ref b47, .ref b48, .ref b49, .ref b50, .ref b51, .ref b52, .ref b53, .ref b54, .ref b55, .ref b56, .ref b57, .ref b58, .ref b59, .ref b60, .ref b61, .ref b62, .ref b63])), (b6, .inl (g.2.1 1, 11, .inl P)), (b7, .inl (g.2.1 1, 11, .inl Lc)), (b12, .inl (g.2.1 1, 132, .inl La)), (b13, .inl (g.2.1 1, 132, .inl Lb)), (b48, .inl (g.2.1 3, 12, .inl lw)), (b46, .inl (g.2.1 1, 112, .inl gq53)), (b47, .inl (g.2.1 1, 16, .inl gw54))]) rfl [0, 1, 2, 3, 4, 5, 6, 7] rfl rfl (⟨_, _, Or.inr rfl, fun _ => rfl, fun x hx => (hq2_gq53 x (by omega)).trans (hG3 x hx), hgw54, rfl⟩) ⟨Nat.le_of_ble_eq_true rfl, Nat.le_of_ble_eq_true rfl⟩ dX12_gossips_275
                          · have hyl : y < pp := ge_f (by omega) (by omega) c49
                            refine lv_aload_n (pc := 194) hx hb dX12_gossips_194 rfl (lv_at hl 0 rfl) ?_
                            refine r_get X hW 0 ciX12 46 rfl (by decide) m_1273 rfl rfl dX12_gossips_195 ?_
                            refine lv_iload (pc := 198) hx hb dX12_gossips_198 (lv_at hl 4 rfl) ?_
                            refine lv_bipush (v := 7) (pc := 200) hx hb dX12_gossips_200 (by decide) ?_
                            refine lv_iadd (pc := 202) hx hb dX12_gossips_202 ?_
                            refine lv_topi (fun uv57 euv57 => ?_)
                            obtain rfl : uv57 = nI (7 * dn + 7) := euv57.trans (nI_add _ _)
                            refine lv_iload (pc := 203) hx hb dX12_gossips_203 (lv_at hl 9 rfl) ?_
                            refine lv_iadd (pc := 205) hx hb dX12_gossips_205 ?_
                            refine lv_topi (fun uv58 euv58 => ?_)
                            obtain rfl : uv58 = nI (7 * dn + 7 + y) := euv58.trans (nI_add _ _)
                            refine lv_iload (pc := 206) hx hb dX12_gossips_206 (lv_at hl 9 rfl) ?_
                            refine lv_aload_n (pc := 208) hx hb dX12_gossips_208 rfl (lv_at hl 0 rfl) ?_
                            refine r_get X hW 0 ciX12 12 rfl (by decide) m_1243 rfl rfl dX12_gossips_209 ?_
                            refine lv_iload (pc := 212) hx hb dX12_gossips_212 (lv_at hl 7 rfl) ?_
                            refine r_iald X hW 3 rfl (vp_in_nI (by omega) (by decide)) dX12_gossips_214 ?_
                            refine lv_topi (fun uv59 euv59 => ?_)
                            obtain rfl : uv59 = nI ea := euv59.trans (by rw [nI_clamp (by omega)]; exact eA)
                            refine lv_icmp_eq (tgt := 230) (pc := 215) hx hb dX12_gossips_215 rfl (fun c60 => ?_) (fun c60 => ?_)
                            · refine lv_iload (pc := 230) hx hb dX12_gossips_230 (lv_at hl 8 rfl) ?_
                              refine lv_goto (tgt := 245) (pc := 232) hx hb dX12_gossips_232 rfl ?_
                              obtain ⟨f61, ef61⟩ : ∃ fz : Nat → Int32, upd G3 (nI (7 * dn + 7 + y)).toNatClampNeg (G (7 * dn + ea) ||| G (7 * dn + eb)) = fz := ⟨_, rfl⟩
                              refine r_iast (ws' := [(h0, .inr (12, [.int i0, .ref b1, .int i2, .int i3, .int i4, .int i5, .ref b6, .ref b7, .ref b8, .ref b9, .ref b10, .ref b11, .ref b12, .ref b13, .ref b14, .ref b15, .ref b16, .ref b17, .int i18, .int i19, .int i20, .ref b21, .ref b22, .ref b23, .ref b24, .ref b25, .ref b26, .int i27, .ref b28, .ref b29, .ref b30, .ref b31, .ref b32, .ref b33, .ref b34, .ref b35, .ref b36, .int i37, .int i38, .int i39, .int i40, .int i41, .int i42, .int i43, .int i44, .int i45, .ref b46, .ref b47, .ref b48, .ref b49, .ref b50, .ref b51, .ref b52, .ref b53, .ref b54, .ref b55, .ref b56, .ref b57, .ref b58, .ref b59, .ref b60, .ref b61, .ref b62, .ref b63])), (b6, .inl (g.2.1 1, 11, .inl P)), (b7, .inl (g.2.1 1, 11, .inl Lc)), (b12, .inl (g.2.1 1, 132, .inl La)), (b13, .inl (g.2.1 1, 132, .inl Lb)), (b48, .inl (g.2.1 3, 12, .inl lw)), (b46, .inl (g.2.1 1, 112, .inl f61)), (b47, .inl (g.2.1 1, 16, .inl gr))]) X hW 6 rfl (vp_in_nI (by omega) (by decide)) ef61 rfl dX12_gossips_245 (fun H locs hW => ?_)
                              refine lv_iinc (v := nI (y + 1)) (lv' := [(9, .int (nI (y + 1))), (0, .ref h0), (1, .int (nI v)), (2, .int (nI dn)), (3, .int 5), (4, .int (nI (7 * dn))), (5, .int 0), (6, .int (nI i)), (7, .int (nI (12 * v + i))), (8, .int (G (7 * dn + ea) ||| G (7 * dn + eb)))]) (pc := 246) hx hb dX12_gossips_246 hl (k := 9) rfl ((nI_succ y).symm) (by decide) rfl (fun ls hl => ?_)
                              refine lv_goto (tgt := 183) (pc := 249) hx hb dX12_gossips_249 rfl ?_
                              have hW : WD g A s _ _ [(h0, .inr (12, [.int i0, .ref b1, .int i2, .int i3, .int i4, .int i5, .ref b6, .ref b7, .ref b8, .ref b9, .ref b10, .ref b11, .ref b12, .ref b13, .ref b14, .ref b15, .ref b16, .ref b17, .int i18, .int i19, .int i20, .ref b21, .ref b22, .ref b23, .ref b24, .ref b25, .ref b26, .int i27, .ref b28, .ref b29, .ref b30, .ref b31, .ref b32, .ref b33, .ref b34, .ref b35, .ref b36, .int i37, .int i38, .int i39, .int i40, .int i41, .int i42, .int i43, .int i44, .int i45, .ref b46, .ref b47, .ref b48, .ref b49, .ref b50, .ref b51, .ref b52, .ref b53, .ref b54, .ref b55, .ref b56, .ref b57, .ref b58, .ref b59, .ref b60, .ref b61, .ref b62, .ref b63])), (b6, .inl (g.2.1 1, 11, .inl P)), (b7, .inl (g.2.1 1, 11, .inl Lc)), (b12, .inl (g.2.1 1, 132, .inl La)), (b13, .inl (g.2.1 1, 132, .inl Lb)), (b48, .inl (g.2.1 3, 12, .inl lw)), (b46, .inl (g.2.1 1, 112, .inl f61)), (b47, .inl (g.2.1 1, 16, .inl gr))] := hW.pick [0, 1, 2, 3, 4, 5, 6, 7] rfl rfl
                              exact ih3 (y + 1) f61 (by omega) (by omega) (fun x hx => by
                                  rw [← ef61, nI_clamp (by omega)]
                                  simp only [upd, show ¬ x = 7 * dn + 7 + y by omega, if_false]
                                  exact hG3 x hx) (fun z hz => by
                                  rw [← ef61, nI_clamp (by omega)]
                                  by_cases e9 : z = y
                                  · subst e9; simp only [upd, if_true]; rw [gaft, if_pos (Or.inl (nI_inj6 (by omega) (by omega) c60))]; rfl
                                  · simp only [upd, show ¬ 7 * dn + 7 + z = 7 * dn + 7 + y by omega, if_false]; exact hC z (by omega)) _ _ _ hW (lv_sub hl [1, 2, 3, 4, 5, 6, 7, 8, 9, 0] rfl)
                            · refine lv_iload (pc := 218) hx hb dX12_gossips_218 (lv_at hl 9 rfl) ?_
                              refine lv_aload_n (pc := 220) hx hb dX12_gossips_220 rfl (lv_at hl 0 rfl) ?_
                              refine r_get X hW 0 ciX12 13 rfl (by decide) m_1244 rfl rfl dX12_gossips_221 ?_
                              refine lv_iload (pc := 224) hx hb dX12_gossips_224 (lv_at hl 7 rfl) ?_
                              refine r_iald X hW 4 rfl (vp_in_nI (by omega) (by decide)) dX12_gossips_226 ?_
                              refine lv_topi (fun uv62 euv62 => ?_)
                              obtain rfl : uv62 = nI eb := euv62.trans (by rw [nI_clamp (by omega)]; exact eB)
                              refine lv_icmp_ne (tgt := 235) (pc := 227) hx hb dX12_gossips_227 rfl (fun c63 => ?_) (fun c63 => ?_)
                              · refine lv_aload_n (pc := 235) hx hb dX12_gossips_235 rfl (lv_at hl 0 rfl) ?_
                                refine r_get X hW 0 ciX12 46 rfl (by decide) m_1273 rfl rfl dX12_gossips_236 ?_
                                refine lv_iload (pc := 239) hx hb dX12_gossips_239 (lv_at hl 4 rfl) ?_
                                refine lv_iload (pc := 241) hx hb dX12_gossips_241 (lv_at hl 9 rfl) ?_
                                refine lv_iadd (pc := 243) hx hb dX12_gossips_243 ?_
                                refine lv_topi (fun uv64 euv64 => ?_)
                                obtain rfl : uv64 = nI (7 * dn + y) := euv64.trans (nI_add _ _)
                                refine r_iald X hW 6 rfl (vp_in_nI (by omega) (by decide)) dX12_gossips_244 ?_
                                refine lv_topi (fun uv65 euv65 => ?_)
                                obtain rfl : uv65 = G (7 * dn + y) := euv65.trans (by rw [nI_clamp (by omega)]; exact hG3 _ (by omega))
                                obtain ⟨f66, ef66⟩ : ∃ fz : Nat → Int32, upd G3 (nI (7 * dn + 7 + y)).toNatClampNeg (G (7 * dn + y)) = fz := ⟨_, rfl⟩
                                refine r_iast (ws' := [(h0, .inr (12, [.int i0, .ref b1, .int i2, .int i3, .int i4, .int i5, .ref b6, .ref b7, .ref b8, .ref b9, .ref b10, .ref b11, .ref b12, .ref b13, .ref b14, .ref b15, .ref b16, .ref b17, .int i18, .int i19, .int i20, .ref b21, .ref b22, .ref b23, .ref b24, .ref b25, .ref b26, .int i27, .ref b28, .ref b29, .ref b30, .ref b31, .ref b32, .ref b33, .ref b34, .ref b35, .ref b36, .int i37, .int i38, .int i39, .int i40, .int i41, .int i42, .int i43, .int i44, .int i45, .ref b46, .ref b47, .ref b48, .ref b49, .ref b50, .ref b51, .ref b52, .ref b53, .ref b54, .ref b55, .ref b56, .ref b57, .ref b58, .ref b59, .ref b60, .ref b61, .ref b62, .ref b63])), (b6, .inl (g.2.1 1, 11, .inl P)), (b7, .inl (g.2.1 1, 11, .inl Lc)), (b12, .inl (g.2.1 1, 132, .inl La)), (b13, .inl (g.2.1 1, 132, .inl Lb)), (b48, .inl (g.2.1 3, 12, .inl lw)), (b46, .inl (g.2.1 1, 112, .inl f66)), (b47, .inl (g.2.1 1, 16, .inl gr))]) X hW 6 rfl (vp_in_nI (by omega) (by decide)) ef66 rfl dX12_gossips_245 (fun H locs hW => ?_)
                                refine lv_iinc (v := nI (y + 1)) (lv' := [(9, .int (nI (y + 1))), (0, .ref h0), (1, .int (nI v)), (2, .int (nI dn)), (3, .int 5), (4, .int (nI (7 * dn))), (5, .int 0), (6, .int (nI i)), (7, .int (nI (12 * v + i))), (8, .int (G (7 * dn + ea) ||| G (7 * dn + eb)))]) (pc := 246) hx hb dX12_gossips_246 hl (k := 9) rfl ((nI_succ y).symm) (by decide) rfl (fun ls hl => ?_)
                                refine lv_goto (tgt := 183) (pc := 249) hx hb dX12_gossips_249 rfl ?_
                                have hW : WD g A s _ _ [(h0, .inr (12, [.int i0, .ref b1, .int i2, .int i3, .int i4, .int i5, .ref b6, .ref b7, .ref b8, .ref b9, .ref b10, .ref b11, .ref b12, .ref b13, .ref b14, .ref b15, .ref b16, .ref b17, .int i18, .int i19, .int i20, .ref b21, .ref b22, .ref b23, .ref b24, .ref b25, .ref b26, .int i27, .ref b28, .ref b29, .ref b30, .ref b31, .ref b32, .ref b33, .ref b34, .ref b35, .ref b36, .int i37, .int i38, .int i39, .int i40, .int i41, .int i42, .int i43, .int i44, .int i45, .ref b46, .ref b47, .ref b48, .ref b49, .ref b50, .ref b51, .ref b52, .ref b53, .ref b54, .ref b55, .ref b56, .ref b57, .ref b58, .ref b59, .ref b60, .ref b61, .ref b62, .ref b63])), (b6, .inl (g.2.1 1, 11, .inl P)), (b7, .inl (g.2.1 1, 11, .inl Lc)), (b12, .inl (g.2.1 1, 132, .inl La)), (b13, .inl (g.2.1 1, 132, .inl Lb)), (b48, .inl (g.2.1 3, 12, .inl lw)), (b46, .inl (g.2.1 1, 112, .inl f66)), (b47, .inl (g.2.1 1, 16, .inl gr))] := hW.pick [0, 1, 2, 3, 4, 5, 6, 7] rfl rfl
                                exact ih3 (y + 1) f66 (by omega) (by omega) (fun x hx => by
                                    rw [← ef66, nI_clamp (by omega)]
                                    simp only [upd, show ¬ x = 7 * dn + 7 + y by omega, if_false]
                                    exact hG3 x hx) (fun z hz => by
                                    rw [← ef66, nI_clamp (by omega)]
                                    by_cases e9 : z = y
                                    · subst e9; simp only [upd, if_true]; rw [gaft, if_neg (fun q => q.elim (fun r => c60 (congrArg nI r)) (fun r => c63 (congrArg nI r)))]; rfl
                                    · simp only [upd, show ¬ 7 * dn + 7 + z = 7 * dn + 7 + y by omega, if_false]; exact hC z (by omega)) _ _ _ hW (lv_sub hl [1, 2, 3, 4, 5, 6, 7, 8, 9, 0] rfl)
                              · refine lv_iload (pc := 230) hx hb dX12_gossips_230 (lv_at hl 8 rfl) ?_
                                refine lv_goto (tgt := 245) (pc := 232) hx hb dX12_gossips_232 rfl ?_
                                obtain ⟨f67, ef67⟩ : ∃ fz : Nat → Int32, upd G3 (nI (7 * dn + 7 + y)).toNatClampNeg (G (7 * dn + ea) ||| G (7 * dn + eb)) = fz := ⟨_, rfl⟩
                                refine r_iast (ws' := [(h0, .inr (12, [.int i0, .ref b1, .int i2, .int i3, .int i4, .int i5, .ref b6, .ref b7, .ref b8, .ref b9, .ref b10, .ref b11, .ref b12, .ref b13, .ref b14, .ref b15, .ref b16, .ref b17, .int i18, .int i19, .int i20, .ref b21, .ref b22, .ref b23, .ref b24, .ref b25, .ref b26, .int i27, .ref b28, .ref b29, .ref b30, .ref b31, .ref b32, .ref b33, .ref b34, .ref b35, .ref b36, .int i37, .int i38, .int i39, .int i40, .int i41, .int i42, .int i43, .int i44, .int i45, .ref b46, .ref b47, .ref b48, .ref b49, .ref b50, .ref b51, .ref b52, .ref b53, .ref b54, .ref b55, .ref b56, .ref b57, .ref b58, .ref b59, .ref b60, .ref b61, .ref b62, .ref b63])), (b6, .inl (g.2.1 1, 11, .inl P)), (b7, .inl (g.2.1 1, 11, .inl Lc)), (b12, .inl (g.2.1 1, 132, .inl La)), (b13, .inl (g.2.1 1, 132, .inl Lb)), (b48, .inl (g.2.1 3, 12, .inl lw)), (b46, .inl (g.2.1 1, 112, .inl f67)), (b47, .inl (g.2.1 1, 16, .inl gr))]) X hW 6 rfl (vp_in_nI (by omega) (by decide)) ef67 rfl dX12_gossips_245 (fun H locs hW => ?_)
                                refine lv_iinc (v := nI (y + 1)) (lv' := [(9, .int (nI (y + 1))), (0, .ref h0), (1, .int (nI v)), (2, .int (nI dn)), (3, .int 5), (4, .int (nI (7 * dn))), (5, .int 0), (6, .int (nI i)), (7, .int (nI (12 * v + i))), (8, .int (G (7 * dn + ea) ||| G (7 * dn + eb)))]) (pc := 246) hx hb dX12_gossips_246 hl (k := 9) rfl ((nI_succ y).symm) (by decide) rfl (fun ls hl => ?_)
                                refine lv_goto (tgt := 183) (pc := 249) hx hb dX12_gossips_249 rfl ?_
                                have hW : WD g A s _ _ [(h0, .inr (12, [.int i0, .ref b1, .int i2, .int i3, .int i4, .int i5, .ref b6, .ref b7, .ref b8, .ref b9, .ref b10, .ref b11, .ref b12, .ref b13, .ref b14, .ref b15, .ref b16, .ref b17, .int i18, .int i19, .int i20, .ref b21, .ref b22, .ref b23, .ref b24, .ref b25, .ref b26, .int i27, .ref b28, .ref b29, .ref b30, .ref b31, .ref b32, .ref b33, .ref b34, .ref b35, .ref b36, .int i37, .int i38, .int i39, .int i40, .int i41, .int i42, .int i43, .int i44, .int i45, .ref b46, .ref b47, .ref b48, .ref b49, .ref b50, .ref b51, .ref b52, .ref b53, .ref b54, .ref b55, .ref b56, .ref b57, .ref b58, .ref b59, .ref b60, .ref b61, .ref b62, .ref b63])), (b6, .inl (g.2.1 1, 11, .inl P)), (b7, .inl (g.2.1 1, 11, .inl Lc)), (b12, .inl (g.2.1 1, 132, .inl La)), (b13, .inl (g.2.1 1, 132, .inl Lb)), (b48, .inl (g.2.1 3, 12, .inl lw)), (b46, .inl (g.2.1 1, 112, .inl f67)), (b47, .inl (g.2.1 1, 16, .inl gr))] := hW.pick [0, 1, 2, 3, 4, 5, 6, 7] rfl rfl
                                exact ih3 (y + 1) f67 (by omega) (by omega) (fun x hx => by
                                    rw [← ef67, nI_clamp (by omega)]
                                    simp only [upd, show ¬ x = 7 * dn + 7 + y by omega, if_false]
                                    exact hG3 x hx) (fun z hz => by
                                    rw [← ef67, nI_clamp (by omega)]
                                    by_cases e9 : z = y
                                    · subst e9; simp only [upd, if_true]; rw [gaft, if_pos (Or.inr (nI_inj6 (by omega) (by omega) c63))]; rfl
                                    · simp only [upd, show ¬ 7 * dn + 7 + z = 7 * dn + 7 + y by omega, if_false]; exact hC z (by omega)) _ _ _ hW (lv_sub hl [1, 2, 3, 4, 5, 6, 7, 8, 9, 0] rfl)
                      exact loop3 (pp + 1) 0 G2 (by omega) (Nat.zero_le _) hG2 (fun z hz => absurd hz (Nat.not_lt_zero z)) _ _ _ hW (lv_sub hl [3, 4, 5, 6, 7, 8, 9, 2, 1, 0] rfl)
                    · refine lv_goto (tgt := 276) (pc := 177) hx hb dX12_gossips_177 rfl ?_
                      refine lv_iinc (v := nI (i + 1)) (lv' := [(6, .int (nI (i + 1))), (8, .int (G (7 * dn + ea) ||| G (7 * dn + eb))), (7, .int (nI (12 * v + i))), (0, .ref h0), (1, .int (nI v)), (2, .int (nI dn)), (3, .int 5), (4, .int (nI (7 * dn))), (5, .int 0)]) (pc := 276) hx hb dX12_gossips_276 hl (k := 8) rfl ((nI_succ i).symm) (by decide) rfl (fun ls hl => ?_)
                      refine lv_goto (tgt := 74) (pc := 279) hx hb dX12_gossips_279 rfl ?_
                      have hW : WD g A s _ _ [(h0, .inr (12, [.int i0, .ref b1, .int i2, .int i3, .int i4, .int i5, .ref b6, .ref b7, .ref b8, .ref b9, .ref b10, .ref b11, .ref b12, .ref b13, .ref b14, .ref b15, .ref b16, .ref b17, .int i18, .int i19, .int i20, .ref b21, .ref b22, .ref b23, .ref b24, .ref b25, .ref b26, .int i27, .ref b28, .ref b29, .ref b30, .ref b31, .ref b32, .ref b33, .ref b34, .ref b35, .ref b36, .int i37, .int i38, .int i39, .int i40, .int i41, .int i42, .int i43, .int i44, .int i45, .ref b46, .ref b47, .ref b48, .ref b49, .ref b50, .ref b51, .ref b52, .ref b53, .ref b54, .ref b55, .ref b56, .ref b57, .ref b58, .ref b59, .ref b60, .ref b61, .ref b62, .ref b63])), (b6, .inl (g.2.1 1, 11, .inl P)), (b7, .inl (g.2.1 1, 11, .inl Lc)), (b12, .inl (g.2.1 1, 132, .inl La)), (b13, .inl (g.2.1 1, 132, .inl Lb)), (b48, .inl (g.2.1 3, 12, .inl lw)), (b46, .inl (g.2.1 1, 112, .inl G2)), (b47, .inl (g.2.1 1, 16, .inl gr))] := hW.pick [0, 1, 2, 3, 4, 5, 6, 7] rfl rfl
                      exact ih2 (i + 1) G2 gr (by omega) (by omega) (hG2) hgr (gno_s hno (by omega) hea heb eA eB (fun ha9 hb9 hw9 hu9 => absurd ⟨h_eA, c47⟩ hu9)) _ _ _ hW (lv_sub hl [3, 4, 5, 6, 7, 8, 0] rfl)
          exact loop2 (lc + 1) 0 G gr0 (by omega) (Nat.zero_le _) (fun x hx => rfl) hg0 gno_0 _ _ _ hW (lv_sub hl [1, 2, 3, 4, 5, 6, 0] rfl)
      · have hkl : k < pp := ge_f (by omega) (by omega) c3
        refine lv_iload (pc := 23) hx hb dX12_gossips_23 (lv_at hl 5 rfl) ?_
        refine lv_if_eq (tgt := 50) (pc := 25) hx hb dX12_gossips_25 rfl (fun c68 => ?_) (fun c68 => ?_)
        · refine lv_iconst (v := 0) (pc := 50) hx hb dX12_gossips_50 (by decide) ?_
          refine lv_istore (lv' := [(5, .int 0), (0, .ref h0), (1, .int (nI v)), (2, .int (nI dn)), (3, .int 5), (4, .int (nI (7 * dn))), (6, .int (nI k))]) (pc := 51) hx hb dX12_gossips_51 hl (by decide) rfl (fun ls hl => ?_)
          refine lv_iinc (v := nI (k + 1)) (lv' := [(6, .int (nI (k + 1))), (5, .int 0), (0, .ref h0), (1, .int (nI v)), (2, .int (nI dn)), (3, .int 5), (4, .int (nI (7 * dn)))]) (pc := 53) hx hb dX12_gossips_53 hl (k := 6) rfl ((nI_succ k).symm) (by decide) rfl (fun ls hl => ?_)
          refine lv_goto (tgt := 12) (pc := 56) hx hb dX12_gossips_56 rfl ?_
          have hW : WD g A s _ _ [(h0, .inr (12, [.int i0, .ref b1, .int i2, .int i3, .int i4, .int i5, .ref b6, .ref b7, .ref b8, .ref b9, .ref b10, .ref b11, .ref b12, .ref b13, .ref b14, .ref b15, .ref b16, .ref b17, .int i18, .int i19, .int i20, .ref b21, .ref b22, .ref b23, .ref b24, .ref b25, .ref b26, .int i27, .ref b28, .ref b29, .ref b30, .ref b31, .ref b32, .ref b33, .ref b34, .ref b35, .ref b36, .int i37, .int i38, .int i39, .int i40, .int i41, .int i42, .int i43, .int i44, .int i45, .ref b46, .ref b47, .ref b48, .ref b49, .ref b50, .ref b51, .ref b52, .ref b53, .ref b54, .ref b55, .ref b56, .ref b57, .ref b58, .ref b59, .ref b60, .ref b61, .ref b62, .ref b63])), (b6, .inl (g.2.1 1, 11, .inl P)), (b7, .inl (g.2.1 1, 11, .inl Lc)), (b12, .inl (g.2.1 1, 132, .inl La)), (b13, .inl (g.2.1 1, 132, .inl Lb)), (b48, .inl (g.2.1 3, 12, .inl lw)), (b46, .inl (g.2.1 1, 112, .inl G)), (b47, .inl (g.2.1 1, 16, .inl gr0))] := hW.pick [0, 1, 2, 3, 4, 5, 6, 7] rfl rfl
          exact ih1 (k + 1) 0 (by omega) (by omega) (Or.inr ⟨rfl, (hal.resolve_left (fun r => absurd (r.1.symm.trans c68) (by decide))).2⟩) _ _ _ hW (lv_sub hl [2, 3, 4, 5, 6, 1, 0] rfl)
        · have hal9 : ¬ al = 0 := c68
          have hal1 : ¬ al = 0 → ∀ o : Nat, o < k → (rwt G dn) o = evy (nI pp) := fun q => (hal.resolve_right (fun r => q r.1)).2
          refine lv_aload_n (pc := 28) hx hb dX12_gossips_28 rfl (lv_at hl 0 rfl) ?_
          refine r_get X hW 0 ciX12 46 rfl (by decide) m_1273 rfl rfl dX12_gossips_29 ?_
          refine lv_iload (pc := 32) hx hb dX12_gossips_32 (lv_at hl 4 rfl) ?_
          refine lv_iload (pc := 34) hx hb dX12_gossips_34 (lv_at hl 6 rfl) ?_
          refine lv_iadd (pc := 36) hx hb dX12_gossips_36 ?_
          refine lv_topi (fun uv69 euv69 => ?_)
          obtain rfl : uv69 = nI (7 * dn + k) := euv69.trans (nI_add _ _)
          refine r_iald X hW 6 rfl (vp_in_nI (by omega) (by decide)) dX12_gossips_37 ?_
          refine lv_topi (fun uv70 euv70 => ?_)
          obtain rfl : uv70 = G (7 * dn + k) := euv70.trans (by rw [nI_clamp (by omega)])
          refine lv_aload_n (pc := 38) hx hb dX12_gossips_38 rfl (lv_at hl 0 rfl) ?_
          refine lv_iload_n (pc := 39) hx hb dX12_gossips_39 rfl (lv_at hl 1 rfl) ?_
          refine c_Vi (pc := 40) (As := [.int (nI v)]) (rest := [.int (G (7 * dn + k))]) (wr := [(b7, .inl (g.2.1 1, 11, .inl Lc)), (b12, .inl (g.2.1 1, 132, .inl La)), (b13, .inl (g.2.1 1, 132, .inl Lb)), (b48, .inl (g.2.1 3, 12, .inl lw)), (b46, .inl (g.2.1 1, 112, .inl G)), (b47, .inl (g.2.1 1, 16, .inl gr0))]) X hW 0 ciX12 rfl (C_X12_everybodyG l g h0 b1 b6 b7 b8 b9 b10 b11 b12 b13 b14 b15 b16 b17 b21 b22 b23 b24 b25 b26 b28 b29 b30 b31 b32 b33 b34 b35 b36 b46 b47 b48 b49 b50 b51 b52 b53 b54 b55 b56 b57 b58 b59 b60 b61 b62 b63 i0 i2 i3 i4 i5 i18 i19 i20 i27 i37 i38 i39 i40 i41 i42 i43 i44 i45 P v (by omega)) vX12_274 [0, 1] [2, 3, 4, 5, 6, 7] rfl rfl rfl rfl rfl rfl hl.1 rfl (Nat.le_of_ble_eq_true rfl) ⟨Nat.le_of_ble_eq_true rfl, Nat.le_of_ble_eq_true rfl⟩ ⟨Nat.le_of_ble_eq_true rfl, Nat.le_of_ble_eq_true rfl⟩ dX12_gossips_40 (fun r71 u9 H locs hq hW => ?_)
          obtain ⟨rfl, rfl⟩ := hq
          have hW : WD g A s _ _ [(b7, .inl (g.2.1 1, 11, .inl Lc)), (b12, .inl (g.2.1 1, 132, .inl La)), (b13, .inl (g.2.1 1, 132, .inl Lb)), (b48, .inl (g.2.1 3, 12, .inl lw)), (b46, .inl (g.2.1 1, 112, .inl G)), (b47, .inl (g.2.1 1, 16, .inl gr0)), (h0, .inr (12, [.int i0, .ref b1, .int i2, .int i3, .int i4, .int i5, .ref b6, .ref b7, .ref b8, .ref b9, .ref b10, .ref b11, .ref b12, .ref b13, .ref b14, .ref b15, .ref b16, .ref b17, .int i18, .int i19, .int i20, .ref b21, .ref b22, .ref b23, .ref b24, .ref b25, .ref b26, .int i27, .ref b28, .ref b29, .ref b30, .ref b31, .ref b32, .ref b33, .ref b34, .ref b35, .ref b36, .int i37, .int i38, .int i39, .int i40, .int i41, .int i42, .int i43, .int i44, .int i45, .ref b46, .ref b47, .ref b48, .ref b49, .ref b50, .ref b51, .ref b52, .ref b53, .ref b54, .ref b55, .ref b56, .ref b57, .ref b58, .ref b59, .ref b60, .ref b61, .ref b62, .ref b63])), (b6, .inl (g.2.1 1, 11, .inl P))] := hW
          refine lv_icmp_ne (tgt := 50) (pc := 43) hx hb dX12_gossips_43 rfl (fun c72 => ?_) (fun c72 => ?_)
          · refine lv_iconst (v := 0) (pc := 50) hx hb dX12_gossips_50 (by decide) ?_
            refine lv_istore (lv' := [(5, .int 0), (0, .ref h0), (1, .int (nI v)), (2, .int (nI dn)), (3, .int 5), (4, .int (nI (7 * dn))), (6, .int (nI k))]) (pc := 51) hx hb dX12_gossips_51 hl (by decide) rfl (fun ls hl => ?_)
            refine lv_iinc (v := nI (k + 1)) (lv' := [(6, .int (nI (k + 1))), (5, .int 0), (0, .ref h0), (1, .int (nI v)), (2, .int (nI dn)), (3, .int 5), (4, .int (nI (7 * dn)))]) (pc := 53) hx hb dX12_gossips_53 hl (k := 6) rfl ((nI_succ k).symm) (by decide) rfl (fun ls hl => ?_)
            refine lv_goto (tgt := 12) (pc := 56) hx hb dX12_gossips_56 rfl ?_
            have hW : WD g A s _ _ [(h0, .inr (12, [.int i0, .ref b1, .int i2, .int i3, .int i4, .int i5, .ref b6, .ref b7, .ref b8, .ref b9, .ref b10, .ref b11, .ref b12, .ref b13, .ref b14, .ref b15, .ref b16, .ref b17, .int i18, .int i19, .int i20, .ref b21, .ref b22, .ref b23, .ref b24, .ref b25, .ref b26, .int i27, .ref b28, .ref b29, .ref b30, .ref b31, .ref b32, .ref b33, .ref b34, .ref b35, .ref b36, .int i37, .int i38, .int i39, .int i40, .int i41, .int i42, .int i43, .int i44, .int i45, .ref b46, .ref b47, .ref b48, .ref b49, .ref b50, .ref b51, .ref b52, .ref b53, .ref b54, .ref b55, .ref b56, .ref b57, .ref b58, .ref b59, .ref b60, .ref b61, .ref b62, .ref b63])), (b6, .inl (g.2.1 1, 11, .inl P)), (b7, .inl (g.2.1 1, 11, .inl Lc)), (b12, .inl (g.2.1 1, 132, .inl La)), (b13, .inl (g.2.1 1, 132, .inl Lb)), (b48, .inl (g.2.1 3, 12, .inl lw)), (b46, .inl (g.2.1 1, 112, .inl G)), (b47, .inl (g.2.1 1, 16, .inl gr0))] := hW.pick [6, 7, 0, 1, 2, 3, 4, 5] rfl rfl
            exact ih1 (k + 1) 0 (by omega) (by omega) (Or.inr ⟨rfl, (fun q => c72 (by have := q k hkl; rw [hP]; exact this))⟩) _ _ _ hW (lv_sub hl [2, 3, 4, 5, 6, 1, 0] rfl)
          · refine lv_iconst (v := 1) (pc := 46) hx hb dX12_gossips_46 (by decide) ?_
            refine lv_goto (tgt := 51) (pc := 47) hx hb dX12_gossips_47 rfl ?_
            refine lv_istore (lv' := [(5, .int 1), (0, .ref h0), (1, .int (nI v)), (2, .int (nI dn)), (3, .int 5), (4, .int (nI (7 * dn))), (6, .int (nI k))]) (pc := 51) hx hb dX12_gossips_51 hl (by decide) rfl (fun ls hl => ?_)
            refine lv_iinc (v := nI (k + 1)) (lv' := [(6, .int (nI (k + 1))), (5, .int 1), (0, .ref h0), (1, .int (nI v)), (2, .int (nI dn)), (3, .int 5), (4, .int (nI (7 * dn)))]) (pc := 53) hx hb dX12_gossips_53 hl (k := 6) rfl ((nI_succ k).symm) (by decide) rfl (fun ls hl => ?_)
            refine lv_goto (tgt := 12) (pc := 56) hx hb dX12_gossips_56 rfl ?_
            have hW : WD g A s _ _ [(h0, .inr (12, [.int i0, .ref b1, .int i2, .int i3, .int i4, .int i5, .ref b6, .ref b7, .ref b8, .ref b9, .ref b10, .ref b11, .ref b12, .ref b13, .ref b14, .ref b15, .ref b16, .ref b17, .int i18, .int i19, .int i20, .ref b21, .ref b22, .ref b23, .ref b24, .ref b25, .ref b26, .int i27, .ref b28, .ref b29, .ref b30, .ref b31, .ref b32, .ref b33, .ref b34, .ref b35, .ref b36, .int i37, .int i38, .int i39, .int i40, .int i41, .int i42, .int i43, .int i44, .int i45, .ref b46, .ref b47, .ref b48, .ref b49, .ref b50, .ref b51, .ref b52, .ref b53, .ref b54, .ref b55, .ref b56, .ref b57, .ref b58, .ref b59, .ref b60, .ref b61, .ref b62, .ref b63])), (b6, .inl (g.2.1 1, 11, .inl P)), (b7, .inl (g.2.1 1, 11, .inl Lc)), (b12, .inl (g.2.1 1, 132, .inl La)), (b13, .inl (g.2.1 1, 132, .inl Lb)), (b48, .inl (g.2.1 3, 12, .inl lw)), (b46, .inl (g.2.1 1, 112, .inl G)), (b47, .inl (g.2.1 1, 16, .inl gr0))] := hW.pick [6, 7, 0, 1, 2, 3, 4, 5] rfl rfl
            exact ih1 (k + 1) 1 (by omega) (by omega) (Or.inl ⟨rfl, gall_s (p := pp) (hal1 hal9) (by show G (7 * dn + k) = _; rw [c72, hP])⟩) _ _ _ hW (lv_sub hl [2, 3, 4, 5, 6, 1, 0] rfl)
  exact loop1 (pp + 1) 0 1 (by omega) (Nat.zero_le _) (Or.inl ⟨rfl, fun o ho => absurd ho (Nat.not_lt_zero o)⟩) _ _ _ hW (lv_sub hl [3, 4, 5, 6, 2, 1, 0] rfl)

set_option maxHeartbeats 40000000 in
set_option maxRecDepth 100000 in
theorem C_X12_gossips_6 (l : Launch) (g : GG) (h0 b1 b6 b7 b8 b9 b10 b11 b12 b13 b14 b15 b16 b17 b21 b22 b23 b24 b25 b26 b28 b29 b30 b31 b32 b33 b34 b35 b36 b46 b47 b48 b49 b50 b51 b52 b53 b54 b55 b56 b57 b58 b59 b60 b61 b62 b63 : Nat) (i0 i2 i3 i4 i5 i18 i19 i20 i27 i37 i38 i39 i40 i41 i42 i43 i44 i45 : Int32) (P Lc La Lb lw G gr0 : Nat → Int32) (v lc pp dn : Nat) (hv : v ≤ 10) (hlc : lc ≤ 12) (hpp : pp ≤ 7) (hP : P v = nI pp) (hLc : Lc v = nI lc) (hLA : in6 La) (hLB : in6 Lb) (hg0 : gb16 gr0) (hdn : dn + 6 ≤ 15) : MetI l g yX12_gossips cX12_gossips 10 (some .boolean) 7 0 0 [.ref h0, .int (nI v), .int (nI dn), .int 6] [(h0, .inr (12, [.int i0, .ref b1, .int i2, .int i3, .int i4, .int i5, .ref b6, .ref b7, .ref b8, .ref b9, .ref b10, .ref b11, .ref b12, .ref b13, .ref b14, .ref b15, .ref b16, .ref b17, .int i18, .int i19, .int i20, .ref b21, .ref b22, .ref b23, .ref b24, .ref b25, .ref b26, .int i27, .ref b28, .ref b29, .ref b30, .ref b31, .ref b32, .ref b33, .ref b34, .ref b35, .ref b36, .int i37, .int i38, .int i39, .int i40, .int i41, .int i42, .int i43, .int i44, .int i45, .ref b46, .ref b47, .ref b48, .ref b49, .ref b50, .ref b51, .ref b52, .ref b53, .ref b54, .ref b55, .ref b56, .ref b57, .ref b58, .ref b59, .ref b60, .ref b61, .ref b62, .ref b63])), (b6, .inl (g.2.1 1, 11, .inl P)), (b7, .inl (g.2.1 1, 11, .inl Lc)), (b12, .inl (g.2.1 1, 132, .inl La)), (b13, .inl (g.2.1 1, 132, .inl Lb)), (b48, .inl (g.2.1 3, 12, .inl lw)), (b46, .inl (g.2.1 1, 112, .inl G)), (b47, .inl (g.2.1 1, 16, .inl gr0))] (fun r u => ∃ G' gr' : Nat → Int32, (r = 0 ∨ r = 1) ∧ (gok (gV La Lb lw v lc) pp (evy (nI pp)) 6 (rwt G dn) → r = 1) ∧ (∀ x : Nat, x < 7 * (dn + 1) → G' x = G x) ∧ gb16 gr' ∧ u = [(h0, .inr (12, [.int i0, .ref b1, .int i2, .int i3, .int i4, .int i5, .ref b6, .ref b7, .ref b8, .ref b9, .ref b10, .ref b11, .ref b12, .ref b13, .ref b14, .ref b15, .ref b16, .ref b17, .int i18, .int i19, .int i20, .ref b21, .ref b22, .ref b23, .ref b24, .ref b25, .ref b26, .int i27, .ref b28, .ref b29, .ref b30, .ref b31, .ref b32, .ref b33, .ref b34, .ref b35, .ref b36, .int i37, .int i38, .int i39, .int i40, .int i41, .int i42, .int i43, .int i44, .int i45, .ref b46, .ref b47, .ref b48, .ref b49, .ref b50, .ref b51, .ref b52, .ref b53, .ref b54, .ref b55, .ref b56, .ref b57, .ref b58, .ref b59, .ref b60, .ref b61, .ref b62, .ref b63])), (b6, .inl (g.2.1 1, 11, .inl P)), (b7, .inl (g.2.1 1, 11, .inl Lc)), (b12, .inl (g.2.1 1, 132, .inl La)), (b13, .inl (g.2.1 1, 132, .inl Lb)), (b48, .inl (g.2.1 3, 12, .inl lw)), (b46, .inl (g.2.1 1, 112, .inl G')), (b47, .inl (g.2.1 1, 16, .inl gr'))]) := by
  refine MetI.of (own := RX12) rfl (by decide) (Nat.le_of_ble_eq_true rfl) ?_
  intro p e s m below meth c A ls args Q hQ X hr hin hW hl
  have hx := X.1
  have hb := X.2.1
  have hl : lv_has ls 10 [(0, .ref h0), (1, .int (nI v)), (2, .int (nI dn)), (3, .int 6)] := hl
  refine lv_bipush (v := 7) (pc := 0) hx hb dX12_gossips_0 (by decide) ?_
  refine lv_iload_n (pc := 2) hx hb dX12_gossips_2 rfl (lv_at hl 2 rfl) ?_
  refine lv_imul (pc := 3) hx hb dX12_gossips_3 ?_
  refine lv_topi (fun uv1 euv1 => ?_)
  obtain rfl : uv1 = nI (7 * dn) := euv1.trans (pk_mul _ _)
  refine lv_istore (lv' := [(4, .int (nI (7 * dn))), (0, .ref h0), (1, .int (nI v)), (2, .int (nI dn)), (3, .int 6)]) (pc := 4) hx hb dX12_gossips_4 hl (by decide) rfl (fun ls hl => ?_)
  refine lv_iconst (v := 1) (pc := 6) hx hb dX12_gossips_6 (by decide) ?_
  refine lv_istore (lv' := [(5, .int 1), (4, .int (nI (7 * dn))), (0, .ref h0), (1, .int (nI v)), (2, .int (nI dn)), (3, .int 6)]) (pc := 7) hx hb dX12_gossips_7 hl (by decide) rfl (fun ls hl => ?_)
  refine lv_iconst (v := 0) (pc := 9) hx hb dX12_gossips_9 (by decide) ?_
  refine lv_istore (lv' := [(6, .int 0), (5, .int 1), (4, .int (nI (7 * dn))), (0, .ref h0), (1, .int (nI v)), (2, .int (nI dn)), (3, .int 6)]) (pc := 10) hx hb dX12_gossips_10 hl (by decide) rfl (fun ls hl => ?_)
  have loop1 : ∀ (fu : Nat) (k : Nat) (al : Int32), (pp < fu + k) → (k ≤ pp) → ((al = 1 ∧ ∀ o : Nat, o < k → (rwt G dn) o = evy (nI pp)) ∨ (al = 0 ∧ ¬ gall pp (evy (nI pp)) (rwt G dn))) → ∀ (H : Heap) (locs : List Loc) (ls : Array Slot), WD g A s H locs [(h0, .inr (12, [.int i0, .ref b1, .int i2, .int i3, .int i4, .int i5, .ref b6, .ref b7, .ref b8, .ref b9, .ref b10, .ref b11, .ref b12, .ref b13, .ref b14, .ref b15, .ref b16, .ref b17, .int i18, .int i19, .int i20, .ref b21, .ref b22, .ref b23, .ref b24, .ref b25, .ref b26, .int i27, .ref b28, .ref b29, .ref b30, .ref b31, .ref b32, .ref b33, .ref b34, .ref b35, .ref b36, .int i37, .int i38, .int i39, .int i40, .int i41, .int i42, .int i43, .int i44, .int i45, .ref b46, .ref b47, .ref b48, .ref b49, .ref b50, .ref b51, .ref b52, .ref b53, .ref b54, .ref b55, .ref b56, .ref b57, .ref b58, .ref b59, .ref b60, .ref b61, .ref b62, .ref b63])), (b6, .inl (g.2.1 1, 11, .inl P)), (b7, .inl (g.2.1 1, 11, .inl Lc)), (b12, .inl (g.2.1 1, 132, .inl La)), (b13, .inl (g.2.1 1, 132, .inl Lb)), (b48, .inl (g.2.1 3, 12, .inl lw)), (b46, .inl (g.2.1 1, 112, .inl G)), (b47, .inl (g.2.1 1, 16, .inl gr0))] → lv_has ls 10 [(0, .ref h0), (1, .int (nI v)), (2, .int (nI dn)), (3, .int 6), (4, .int (nI (7 * dn))), (5, .int al), (6, .int (nI k))] → W p l e (RM 7 0 0) s m args below meth c H locs 0 0 Q (F0 m 12 ls []) := by
    intro fu
    induction fu with
    | zero =>
      intro k al hm hk hal
      exact absurd hm (by omega)
    | succ fu ih1 =>
      intro k al hm hk hal H locs ls hW hl
      refine lv_iload (pc := 12) hx hb dX12_gossips_12 (lv_at hl 6 rfl) ?_
      refine lv_aload_n (pc := 14) hx hb dX12_gossips_14 rfl (lv_at hl 0 rfl) ?_
      refine r_get X hW 0 ciX12 6 rfl (by decide) m_1237 rfl rfl dX12_gossips_15 ?_
      refine lv_iload_n (pc := 18) hx hb dX12_gossips_18 rfl (lv_at hl 1 rfl) ?_
      refine r_iald X hW 1 rfl (vp_in_nI (by omega) (by decide)) dX12_gossips_19 ?_
      refine lv_topi (fun uv2 euv2 => ?_)
      obtain rfl : uv2 = nI pp := euv2.trans (by rw [nI_clamp (by omega)]; exact hP)
      refine lv_icmp_ge (tgt := 59) (pc := 20) hx hb dX12_gossips_20 rfl (fun c3 => ?_) (fun c3 => ?_)
      · have hkp : k = pp := Nat.le_antisymm hk (ge_t (by omega) (by omega) c3)
        rw [hkp] at hal
        rcases hal with ⟨ha1, hal⟩ | ⟨ha1, hal⟩
        · subst ha1
          refine lv_iload (pc := 59) hx hb dX12_gossips_59 (lv_at hl 5 rfl) ?_
          refine lv_if_ne (tgt := 68) (pc := 61) hx hb dX12_gossips_61 rfl (fun c4 => ?_) (fun c4 => absurd c4 (by decide))
          refine lv_iload (pc := 68) hx hb dX12_gossips_68 (lv_at hl 5 rfl) ?_
          exact e_z X hQ hr hW (u := [(h0, .inr (12, [.int i0, .ref b1, .int i2, .int i3, .int i4, .int i5, .ref b6, .ref b7, .ref b8, .ref b9, .ref b10, .ref b11, .ref b12, .ref b13, .ref b14, .ref b15, .ref b16, .ref b17, .int i18, .int i19, .int i20, .ref b21, .ref b22, .ref b23, .ref b24, .ref b25, .ref b26, .int i27, .ref b28, .ref b29, .ref b30, .ref b31, .ref b32, .ref b33, .ref b34, .ref b35, .ref b36, .int i37, .int i38, .int i39, .int i40, .int i41, .int i42, .int i43, .int i44, .int i45, .ref b46, .ref b47, .ref b48, .ref b49, .ref b50, .ref b51, .ref b52, .ref b53, .ref b54, .ref b55, .ref b56, .ref b57, .ref b58, .ref b59, .ref b60, .ref b61, .ref b62, .ref b63])), (b6, .inl (g.2.1 1, 11, .inl P)), (b7, .inl (g.2.1 1, 11, .inl Lc)), (b12, .inl (g.2.1 1, 132, .inl La)), (b13, .inl (g.2.1 1, 132, .inl Lb)), (b48, .inl (g.2.1 3, 12, .inl lw)), (b46, .inl (g.2.1 1, 112, .inl G)), (b47, .inl (g.2.1 1, 16, .inl gr0))]) rfl [0, 1, 2, 3, 4, 5, 6, 7] rfl rfl (⟨_, _, Or.inr rfl, fun _ => rfl, fun x hx => rfl, hg0, rfl⟩) ⟨Nat.le_of_ble_eq_true rfl, Nat.le_of_ble_eq_true rfl⟩ dX12_gossips_70
        · subst ha1
          refine lv_iload (pc := 59) hx hb dX12_gossips_59 (lv_at hl 5 rfl) ?_
          refine lv_if_ne (tgt := 68) (pc := 61) hx hb dX12_gossips_61 rfl (fun c5 => absurd (by decide) c5) (fun c5 => ?_)
          refine lv_iload_n (pc := 64) hx hb dX12_gossips_64 rfl (lv_at hl 3 rfl) ?_
          refine lv_if_ne (tgt := 71) (pc := 65) hx hb dX12_gossips_65 rfl (fun c6 => ?_) (fun c6 => absurd c6 (by decide))
          refine lv_iconst (v := 0) (pc := 71) hx hb dX12_gossips_71 (by decide) ?_
          refine lv_istore (lv' := [(6, .int 0), (0, .ref h0), (1, .int (nI v)), (2, .int (nI dn)), (3, .int 6), (4, .int (nI (7 * dn))), (5, .int 0)]) (pc := 72) hx hb dX12_gossips_72 hl (by decide) rfl (fun ls hl => ?_)
          have hW : WD g A s _ _ [(h0, .inr (12, [.int i0, .ref b1, .int i2, .int i3, .int i4, .int i5, .ref b6, .ref b7, .ref b8, .ref b9, .ref b10, .ref b11, .ref b12, .ref b13, .ref b14, .ref b15, .ref b16, .ref b17, .int i18, .int i19, .int i20, .ref b21, .ref b22, .ref b23, .ref b24, .ref b25, .ref b26, .int i27, .ref b28, .ref b29, .ref b30, .ref b31, .ref b32, .ref b33, .ref b34, .ref b35, .ref b36, .int i37, .int i38, .int i39, .int i40, .int i41, .int i42, .int i43, .int i44, .int i45, .ref b46, .ref b47, .ref b48, .ref b49, .ref b50, .ref b51, .ref b52, .ref b53, .ref b54, .ref b55, .ref b56, .ref b57, .ref b58, .ref b59, .ref b60, .ref b61, .ref b62, .ref b63])), (b6, .inl (g.2.1 1, 11, .inl P)), (b7, .inl (g.2.1 1, 11, .inl Lc)), (b12, .inl (g.2.1 1, 132, .inl La)), (b13, .inl (g.2.1 1, 132, .inl Lb)), (b48, .inl (g.2.1 3, 12, .inl lw)), (b46, .inl (g.2.1 1, 112, .inl G)), (b47, .inl (g.2.1 1, 16, .inl gr0))] := hW.pick [0, 1, 2, 3, 4, 5, 6, 7] rfl rfl
          have loop2 : ∀ (fv : Nat) (i : Nat) (G2 : Nat → Int32) (gr : Nat → Int32), (lc < fv + i) → (i ≤ lc) → (∀ x : Nat, x < 7 * (dn + 1) → G2 x = G x) → (gb16 gr) → (gno La Lb lw v lc pp (evy (nI pp)) 5 (rwt G dn) i) → ∀ (H : Heap) (locs : List Loc) (ls : Array Slot), WD g A s H locs [(h0, .inr (12, [.int i0, .ref b1, .int i2, .int i3, .int i4, .int i5, .ref b6, .ref b7, .ref b8, .ref b9, .ref b10, .ref b11, .ref b12, .ref b13, .ref b14, .ref b15, .ref b16, .ref b17, .int i18, .int i19, .int i20, .ref b21, .ref b22, .ref b23, .ref b24, .ref b25, .ref b26, .int i27, .ref b28, .ref b29, .ref b30, .ref b31, .ref b32, .ref b33, .ref b34, .ref b35, .ref b36, .int i37, .int i38, .int i39, .int i40, .int i41, .int i42, .int i43, .int i44, .int i45, .ref b46, .ref b47, .ref b48, .ref b49, .ref b50, .ref b51, .ref b52, .ref b53, .ref b54, .ref b55, .ref b56, .ref b57, .ref b58, .ref b59, .ref b60, .ref b61, .ref b62, .ref b63])), (b6, .inl (g.2.1 1, 11, .inl P)), (b7, .inl (g.2.1 1, 11, .inl Lc)), (b12, .inl (g.2.1 1, 132, .inl La)), (b13, .inl (g.2.1 1, 132, .inl Lb)), (b48, .inl (g.2.1 3, 12, .inl lw)), (b46, .inl (g.2.1 1, 112, .inl G2)), (b47, .inl (g.2.1 1, 16, .inl gr))] → lv_has ls 10 [(0, .ref h0), (1, .int (nI v)), (2, .int (nI dn)), (3, .int 6), (4, .int (nI (7 * dn))), (5, .int 0), (6, .int (nI i))] → W p l e (RM 7 0 0) s m args below meth c H locs 0 0 Q (F0 m 74 ls []) := by
            intro fv
            induction fv with
            | zero =>
              intro i G2 gr hm2 hi hG2 hgr hno
              exact absurd hm2 (by omega)
            | succ fv ih2 =>
              intro i G2 gr hm2 hi hG2 hgr hno H locs ls hW hl
              refine lv_iload (pc := 74) hx hb dX12_gossips_74 (lv_at hl 6 rfl) ?_
              refine lv_aload_n (pc := 76) hx hb dX12_gossips_76 rfl (lv_at hl 0 rfl) ?_
              refine r_get X hW 0 ciX12 7 rfl (by decide) m_1238 rfl rfl dX12_gossips_77 ?_
              refine lv_iload_n (pc := 80) hx hb dX12_gossips_80 rfl (lv_at hl 1 rfl) ?_
              refine r_iald X hW 2 rfl (vp_in_nI (by omega) (by decide)) dX12_gossips_81 ?_
              refine lv_topi (fun uv7 euv7 => ?_)
              obtain rfl : uv7 = nI lc := euv7.trans (by rw [nI_clamp (by omega)]; exact hLc)
              refine lv_icmp_ge (tgt := 282) (pc := 82) hx hb dX12_gossips_82 rfl (fun c8 => ?_) (fun c8 => ?_)
              · have hie : i = lc := Nat.le_antisymm hi (ge_t (by omega) (by omega) c8)
                refine lv_iconst (v := 0) (pc := 282) hx hb dX12_gossips_282 (by decide) ?_
                exact e_z X hQ hr hW (u := [(h0, .inr (12, [.int i0, .ref b1, .int i2, .int i3, .int i4, .int i5, .ref b6, .ref b7, .ref b8, .ref b9, .ref b10, .ref b11, .ref b12, .ref b13, .ref b14, .ref b15, .ref b16, .ref b17, .int i18, .int i19, .int i20, .ref b21, .ref b22, .ref b23, .ref b24, .ref b25, .ref b26, .int i27, .ref b28, .ref b29, .ref b30, .ref b31, .ref b32, .ref b33, .ref b34, .ref b35, .ref b36, .int i37, .int i38, .int i39, .int i40, .int i41, .int i42, .int i43, .int i44, .int i45, .ref b46, .ref b47, .ref b48, .ref b49, .ref b50, .ref b51, .ref b52, .ref b53, .ref b54, .ref b55, .ref b56, .ref b57, .ref b58, .ref b59, .ref b60, .ref b61, .ref b62, .ref b63])), (b6, .inl (g.2.1 1, 11, .inl P)), (b7, .inl (g.2.1 1, 11, .inl Lc)), (b12, .inl (g.2.1 1, 132, .inl La)), (b13, .inl (g.2.1 1, 132, .inl Lb)), (b48, .inl (g.2.1 3, 12, .inl lw)), (b46, .inl (g.2.1 1, 112, .inl G2)), (b47, .inl (g.2.1 1, 16, .inl gr))]) rfl [0, 1, 2, 3, 4, 5, 6, 7] rfl rfl (⟨_, _, Or.inl rfl, fun q => absurd q (gno_end hno hie hal), hG2, hgr, rfl⟩) ⟨Nat.le_of_ble_eq_true rfl, Nat.le_of_ble_eq_true rfl⟩ dX12_gossips_283
              · have hil : i < lc := ge_f (by omega) (by omega) c8
                obtain ⟨ea, hea, eA⟩ := hLA (12 * v + i) (by omega)
                obtain ⟨eb, heb, eB⟩ := hLB (12 * v + i) (by omega)
                refine lv_bipush (v := 12) (pc := 85) hx hb dX12_gossips_85 (by decide) ?_
                refine lv_iload_n (pc := 87) hx hb dX12_gossips_87 rfl (lv_at hl 1 rfl) ?_
                refine lv_imul (pc := 88) hx hb dX12_gossips_88 ?_
                refine lv_topi (fun uv9 euv9 => ?_)
                obtain rfl : uv9 = nI (12 * v) := euv9.trans (pk_mul _ _)
                refine lv_iload (pc := 89) hx hb dX12_gossips_89 (lv_at hl 6 rfl) ?_
                refine lv_iadd (pc := 91) hx hb dX12_gossips_91 ?_
                refine lv_topi (fun uv10 euv10 => ?_)
                obtain rfl : uv10 = nI (12 * v + i) := euv10.trans (nI_add _ _)
                refine lv_istore (lv' := [(7, .int (nI (12 * v + i))), (0, .ref h0), (1, .int (nI v)), (2, .int (nI dn)), (3, .int 6), (4, .int (nI (7 * dn))), (5, .int 0), (6, .int (nI i))]) (pc := 92) hx hb dX12_gossips_92 hl (by decide) rfl (fun ls hl => ?_)
                refine lv_aload_n (pc := 94) hx hb dX12_gossips_94 rfl (lv_at hl 1 rfl) ?_
                refine r_get X hW 0 ciX12 46 rfl (by decide) m_1273 rfl rfl dX12_gossips_95 ?_
                refine lv_iload (pc := 98) hx hb dX12_gossips_98 (lv_at hl 5 rfl) ?_
                refine lv_aload_n (pc := 100) hx hb dX12_gossips_100 rfl (lv_at hl 1 rfl) ?_
                refine r_get X hW 0 ciX12 12 rfl (by decide) m_1243 rfl rfl dX12_gossips_101 ?_
                refine lv_iload (pc := 104) hx hb dX12_gossips_104 (lv_at hl 0 rfl) ?_
                refine r_iald X hW 3 rfl (vp_in_nI (by omega) (by decide)) dX12_gossips_106 ?_
                refine lv_topi (fun uv11 euv11 => ?_)
                obtain rfl : uv11 = nI ea := euv11.trans (by rw [nI_clamp (by omega)]; exact eA)
                refine lv_iadd (pc := 107) hx hb dX12_gossips_107 ?_
                refine lv_topi (fun uv12 euv12 => ?_)
                obtain rfl : uv12 = nI (7 * dn + ea) := euv12.trans (nI_add _ _)
                refine r_iald X hW 6 rfl (vp_in_nI (by omega) (by decide)) dX12_gossips_108 ?_
                refine lv_topi (fun uv13 euv13 => ?_)
                obtain rfl : uv13 = G (7 * dn + ea) := euv13.trans (by rw [nI_clamp (by omega)]; exact hG2 _ (by omega))
                refine lv_aload_n (pc := 109) hx hb dX12_gossips_109 rfl (lv_at hl 1 rfl) ?_
                refine r_get X hW 0 ciX12 46 rfl (by decide) m_1273 rfl rfl dX12_gossips_110 ?_
                refine lv_iload (pc := 113) hx hb dX12_gossips_113 (lv_at hl 5 rfl) ?_
                refine lv_aload_n (pc := 115) hx hb dX12_gossips_115 rfl (lv_at hl 1 rfl) ?_
                refine r_get X hW 0 ciX12 13 rfl (by decide) m_1244 rfl rfl dX12_gossips_116 ?_
                refine lv_iload (pc := 119) hx hb dX12_gossips_119 (lv_at hl 0 rfl) ?_
                refine r_iald X hW 4 rfl (vp_in_nI (by omega) (by decide)) dX12_gossips_121 ?_
                refine lv_topi (fun uv14 euv14 => ?_)
                obtain rfl : uv14 = nI eb := euv14.trans (by rw [nI_clamp (by omega)]; exact eB)
                refine lv_iadd (pc := 122) hx hb dX12_gossips_122 ?_
                refine lv_topi (fun uv15 euv15 => ?_)
                obtain rfl : uv15 = nI (7 * dn + eb) := euv15.trans (nI_add _ _)
                refine r_iald X hW 6 rfl (vp_in_nI (by omega) (by decide)) dX12_gossips_123 ?_
                refine lv_topi (fun uv16 euv16 => ?_)
                obtain rfl : uv16 = G (7 * dn + eb) := euv16.trans (by rw [nI_clamp (by omega)]; exact hG2 _ (by omega))
                refine lv_ior (pc := 124) hx hb dX12_gossips_124 ?_
                refine lv_topi (fun uv17 euv17 => ?_)
                obtain rfl : uv17 = G (7 * dn + ea) ||| G (7 * dn + eb) := euv17.trans (rfl)
                refine lv_istore (lv' := [(8, .int (G (7 * dn + ea) ||| G (7 * dn + eb))), (7, .int (nI (12 * v + i))), (0, .ref h0), (1, .int (nI v)), (2, .int (nI dn)), (3, .int 6), (4, .int (nI (7 * dn))), (5, .int 0), (6, .int (nI i))]) (pc := 125) hx hb dX12_gossips_125 hl (by decide) rfl (fun ls hl => ?_)
                refine lv_aload_n (pc := 127) hx hb dX12_gossips_127 rfl (lv_at hl 2 rfl) ?_
                refine r_get X hW 0 ciX12 48 rfl (by decide) m_1275 rfl rfl dX12_gossips_128 ?_
                refine lv_iload (pc := 131) hx hb dX12_gossips_131 (lv_at hl 8 rfl) ?_
                refine r_zald X hW 5 rfl (vp_in_nI (by omega) (by decide)) dX12_gossips_133 ?_
                refine lv_topi (fun uv18 euv18 => ?_)
                obtain rfl : uv18 = lw i := euv18.trans (by rw [nI_clamp (by omega)])
                refine lv_if_eq (tgt := 276) (pc := 134) hx hb dX12_gossips_134 rfl (fun c19 => ?_) (fun c19 => ?_)
                · refine lv_iinc (v := nI (i + 1)) (lv' := [(6, .int (nI (i + 1))), (8, .int (G (7 * dn + ea) ||| G (7 * dn + eb))), (7, .int (nI (12 * v + i))), (0, .ref h0), (1, .int (nI v)), (2, .int (nI dn)), (3, .int 6), (4, .int (nI (7 * dn))), (5, .int 0)]) (pc := 276) hx hb dX12_gossips_276 hl (k := 8) rfl ((nI_succ i).symm) (by decide) rfl (fun ls hl => ?_)
                  refine lv_goto (tgt := 74) (pc := 279) hx hb dX12_gossips_279 rfl ?_
                  have hW : WD g A s _ _ [(h0, .inr (12, [.int i0, .ref b1, .int i2, .int i3, .int i4, .int i5, .ref b6, .ref b7, .ref b8, .ref b9, .ref b10, .ref b11, .ref b12, .ref b13, .ref b14, .ref b15, .ref b16, .ref b17, .int i18, .int i19, .int i20, .ref b21, .ref b22, .ref b23, .ref b24, .ref b25, .ref b26, .int i27, .ref b28, .ref b29, .ref b30, .ref b31, .ref b32, .ref b33, .ref b34, .ref b35, .ref b36, .int i37, .int i38, .int i39, .int i40, .int i41, .int i42, .int i43, .int i44, .int i45, .ref b46, .ref b47, .ref b48, .ref b49, .ref b50, .ref b51, .ref b52, .ref b53, .ref b54, .ref b55, .ref b56, .ref b57, .ref b58, .ref b59, .ref b60, .ref b61, .ref b62, .ref b63])), (b6, .inl (g.2.1 1, 11, .inl P)), (b7, .inl (g.2.1 1, 11, .inl Lc)), (b12, .inl (g.2.1 1, 132, .inl La)), (b13, .inl (g.2.1 1, 132, .inl Lb)), (b48, .inl (g.2.1 3, 12, .inl lw)), (b46, .inl (g.2.1 1, 112, .inl G2)), (b47, .inl (g.2.1 1, 16, .inl gr))] := hW.pick [0, 1, 2, 3, 4, 5, 6, 7] rfl rfl
                  exact ih2 (i + 1) G2 gr (by omega) (by omega) (hG2) hgr (gno_s hno (by omega) hea heb eA eB (fun ha9 hb9 hw9 hu9 => absurd c19 hw9)) _ _ _ hW (lv_sub hl [3, 4, 5, 6, 7, 8, 0] rfl)
                · have hw_i := c19
                  refine lv_aload_n (pc := 137) hx hb dX12_gossips_137 rfl (lv_at hl 2 rfl) ?_
                  refine r_get X hW 0 ciX12 46 rfl (by decide) m_1273 rfl rfl dX12_gossips_138 ?_
                  refine lv_iload (pc := 141) hx hb dX12_gossips_141 (lv_at hl 6 rfl) ?_
                  refine lv_aload_n (pc := 143) hx hb dX12_gossips_143 rfl (lv_at hl 2 rfl) ?_
                  refine r_get X hW 0 ciX12 12 rfl (by decide) m_1243 rfl rfl dX12_gossips_144 ?_
                  refine lv_iload (pc := 147) hx hb dX12_gossips_147 (lv_at hl 1 rfl) ?_
                  refine r_iald X hW 3 rfl (vp_in_nI (by omega) (by decide)) dX12_gossips_149 ?_
                  refine lv_topi (fun uv20 euv20 => ?_)
                  obtain rfl : uv20 = nI ea := euv20.trans (by rw [nI_clamp (by omega)]; exact eA)
                  refine lv_iadd (pc := 150) hx hb dX12_gossips_150 ?_
                  refine lv_topi (fun uv21 euv21 => ?_)
                  obtain rfl : uv21 = nI (7 * dn + ea) := euv21.trans (nI_add _ _)
                  refine r_iald X hW 6 rfl (vp_in_nI (by omega) (by decide)) dX12_gossips_151 ?_
                  refine lv_topi (fun uv22 euv22 => ?_)
                  obtain rfl : uv22 = G (7 * dn + ea) := euv22.trans (by rw [nI_clamp (by omega)]; exact hG2 _ (by omega))
                  refine lv_iload (pc := 152) hx hb dX12_gossips_152 (lv_at hl 0 rfl) ?_
                  refine lv_icmp_ne (tgt := 180) (pc := 154) hx hb dX12_gossips_154 rfl (fun c23 => ?_) (fun c23 => ?_)
                  · refine lv_iconst (v := 0) (pc := 180) hx hb dX12_gossips_180 (by decide) ?_
                    refine lv_istore (lv' := [(9, .int 0), (8, .int (G (7 * dn + ea) ||| G (7 * dn + eb))), (7, .int (nI (12 * v + i))), (0, .ref h0), (1, .int (nI v)), (2, .int (nI dn)), (3, .int 6), (4, .int (nI (7 * dn))), (5, .int 0), (6, .int (nI i))]) (pc := 181) hx hb dX12_gossips_181 hl (by decide) rfl (fun ls hl => ?_)
                    have loop3 : ∀ (fx : Nat) (y : Nat) (G3 : Nat → Int32), (pp < fx + y) → (y ≤ pp) → (∀ x : Nat, x < 7 * (dn + 1) → G3 x = G x) → (∀ z : Nat, z < y → G3 (7 * dn + 7 + z) = gaft (rwt G dn) ea eb z) → ∀ (H : Heap) (locs : List Loc) (ls : Array Slot), WD g A s H locs [(h0, .inr (12, [.int i0, .ref b1, .int i2, .int i3, .int i4, .int i5, .ref b6, .ref b7, .ref b8, .ref b9, .ref b10, .ref b11, .ref b12, .ref b13, .ref b14, .ref b15, .ref b16, .ref b17, .int i18, .int i19, .int i20, .ref b21, .ref b22, .ref b23, .ref b24, .ref b25, .ref b26, .int i27, .ref b28, .ref b29, .ref b30, .ref b31, .ref b32, .ref b33, .ref b34, .ref b35, .ref b36, .int i37, .int i38, .int i39, .int i40, .int i41, .int i42, .int i43, .int i44, .int i45, .ref b46, .ref b47, .ref b48, .ref b49, .ref b50, .ref b51, .ref b52, .ref b53, .ref b54, .ref b55, .ref b56, .ref b57, .ref b58, .ref b59, .ref b60, .ref b61, .ref b62, .ref b63])), (b6, .inl (g.2.1 1, 11, .inl P)), (b7, .inl (g.2.1 1, 11, .inl Lc)), (b12, .inl (g.2.1 1, 132, .inl La)), (b13, .inl (g.2.1 1, 132, .inl Lb)), (b48, .inl (g.2.1 3, 12, .inl lw)), (b46, .inl (g.2.1 1, 112, .inl G3)), (b47, .inl (g.2.1 1, 16, .inl gr))] → lv_has ls 10 [(0, .ref h0), (1, .int (nI v)), (2, .int (nI dn)), (3, .int 6), (4, .int (nI (7 * dn))), (5, .int 0), (6, .int (nI i)), (7, .int (nI (12 * v + i))), (8, .int (G (7 * dn + ea) ||| G (7 * dn + eb))), (9, .int (nI y))] → W p l e (RM 7 0 0) s m args below meth c H locs 0 0 Q (F0 m 183 ls []) := by
                      intro fx
                      induction fx with
                      | zero =>
                        intro y G3 hm3 hy hG3 hC
                        exact absurd hm3 (by omega)
                      | succ fx ih3 =>
                        intro y G3 hm3 hy hG3 hC H locs ls hW hl
                        refine lv_iload (pc := 183) hx hb dX12_gossips_183 (lv_at hl 9 rfl) ?_
                        refine lv_aload_n (pc := 185) hx hb dX12_gossips_185 rfl (lv_at hl 0 rfl) ?_
                        refine r_get X hW 0 ciX12 6 rfl (by decide) m_1237 rfl rfl dX12_gossips_186 ?_
                        refine lv_iload_n (pc := 189) hx hb dX12_gossips_189 rfl (lv_at hl 1 rfl) ?_
                        refine r_iald X hW 1 rfl (vp_in_nI (by omega) (by decide)) dX12_gossips_190 ?_
                        refine lv_topi (fun uv24 euv24 => ?_)
                        obtain rfl : uv24 = nI pp := euv24.trans (by rw [nI_clamp (by omega)]; exact hP)
                        refine lv_icmp_ge (tgt := 252) (pc := 191) hx hb dX12_gossips_191 rfl (fun c25 => ?_) (fun c25 => ?_)
                        · have hyk : y = pp := Nat.le_antisymm hy (ge_t (by omega) (by omega) c25)
                          rw [hyk] at hC
                          refine lv_aload_n (pc := 252) hx hb dX12_gossips_252 rfl (lv_at hl 0 rfl) ?_
                          refine r_get X hW 0 ciX12 47 rfl (by decide) m_1274 rfl rfl dX12_gossips_253 ?_
                          refine lv_iload_n (pc := 256) hx hb dX12_gossips_256 rfl (lv_at hl 2 rfl) ?_
                          refine lv_iload (pc := 257) hx hb dX12_gossips_257 (lv_at hl 6 rfl) ?_
                          obtain ⟨f26, ef26⟩ : ∃ fz : Nat → Int32, upd gr (nI dn).toNatClampNeg (nI i) = fz := ⟨_, rfl⟩
                          refine r_iast (ws' := [(h0, .inr (12, [.int i0, .ref b1, .int i2, .int i3, .int i4, .int i5, .ref b6, .ref b7, .ref b8, .ref b9, .ref b10, .ref b11, .ref b12, .ref b13, .ref b14, .ref b15, .ref b16, .ref b17, .int i18, .int i19, .int i20, .ref b21, .ref b22, .ref b23, .ref b24, .ref b25, .ref b26, .int i27, .ref b28, .ref b29, .ref b30, .ref b31, .ref b32, .ref b33, .ref b34, .ref b35, .ref b36, .int i37, .int i38, .int i39, .int i40, .int i41, .int i42, .int i43, .int i44, .int i45, .ref b46, .ref b47, .ref b48, .ref b49, .ref b50, .ref b51, .ref b52, .ref b53, .ref b54, .ref b55, .ref b56, .ref b57, .ref b58, .ref b59, .ref b60, .ref b61, .ref b62, .ref b63])), (b6, .inl (g.2.1 1, 11, .inl P)), (b7, .inl (g.2.1 1, 11, .inl Lc)), (b12, .inl (g.2.1 1, 132, .inl La)), (b13, .inl (g.2.1 1, 132, .inl Lb)), (b48, .inl (g.2.1 3, 12, .inl lw)), (b46, .inl (g.2.1 1, 112, .inl G3)), (b47, .inl (g.2.1 1, 16, .inl f26))]) X hW 7 rfl (vp_in_nI (by omega) (by decide)) ef26 rfl dX12_gossips_259 (fun H locs hW => ?_)
                          have hg_f26 : gb16 f26 := by rw [← ef26]; exact gb16_upd hgr (by omega)
                          refine lv_aload_n (pc := 260) hx hb dX12_gossips_260 rfl (lv_at hl 0 rfl) ?_
                          refine lv_iload_n (pc := 261) hx hb dX12_gossips_261 rfl (lv_at hl 1 rfl) ?_
                          refine lv_iload_n (pc := 262) hx hb dX12_gossips_262 rfl (lv_at hl 2 rfl) ?_
                          refine lv_iconst (v := 1) (pc := 263) hx hb dX12_gossips_263 (by decide) ?_
                          refine lv_iadd (pc := 264) hx hb dX12_gossips_264 ?_
                          refine lv_topi (fun uv27 euv27 => ?_)
                          obtain rfl : uv27 = nI (dn + 1) := euv27.trans (nI_1 _)
                          refine lv_iload_n (pc := 265) hx hb dX12_gossips_265 rfl (lv_at hl 3 rfl) ?_
                          refine lv_iconst (v := 1) (pc := 266) hx hb dX12_gossips_266 (by decide) ?_
                          refine lv_isub (pc := 267) hx hb dX12_gossips_267 ?_
                          refine lv_topi (fun uv28 euv28 => ?_)
                          obtain rfl : uv28 = 5 := euv28.trans (by decide +kernel)
                          refine c_Vi (pc := 268) (As := [.int (nI v), .int (nI (dn + 1)), .int 5]) (rest := []) (wr := []) X hW 0 ciX12 rfl (C_X12_gossips_5 l g h0 b1 b6 b7 b8 b9 b10 b11 b12 b13 b14 b15 b16 b17 b21 b22 b23 b24 b25 b26 b28 b29 b30 b31 b32 b33 b34 b35 b36 b46 b47 b48 b49 b50 b51 b52 b53 b54 b55 b56 b57 b58 b59 b60 b61 b62 b63 i0 i2 i3 i4 i5 i18 i19 i20 i27 i37 i38 i39 i40 i41 i42 i43 i44 i45 P Lc La Lb lw G3 f26 v lc pp (dn + 1) hv hlc hpp hP hLc hLA hLB hg_f26 (by omega)) vX12_346 [0, 1, 2, 3, 4, 5, 6, 7] [] rfl rfl rfl rfl rfl rfl hl.1 rfl (Nat.le_of_ble_eq_true rfl) ⟨Nat.le_of_ble_eq_true rfl, Nat.le_of_ble_eq_true rfl⟩ ⟨Nat.le_of_ble_eq_true rfl, Nat.le_of_ble_eq_true rfl⟩ dX12_gossips_268 (fun r31 u9 H locs hq hW => ?_)
                          obtain ⟨gq29, gw30, -, hq1_gq29, hq2_gq29, hgw30, rfl⟩ := hq
                          have hW : WD g A s _ _ [(h0, .inr (12, [.int i0, .ref b1, .int i2, .int i3, .int i4, .int i5, .ref b6, .ref b7, .ref b8, .ref b9, .ref b10, .ref b11, .ref b12, .ref b13, .ref b14, .ref b15, .ref b16, .ref b17, .int i18, .int i19, .int i20, .ref b21, .ref b22, .ref b23, .ref b24, .ref b25, .ref b26, .int i27, .ref b28, .ref b29, .ref b30, .ref b31, .ref b32, .ref b33, .ref b34, .ref b35, .ref b36, .int i37, .int i38, .int i39, .int i40, .int i41, .int i42, .int i43, .int i44, .int i45, .ref b46, .ref b47, .ref b48, .ref b49, .ref b50, .ref b51, .ref b52, .ref b53, .ref b54, .ref b55, .ref b56, .ref b57, .ref b58, .ref b59, .ref b60, .ref b61, .ref b62, .ref b63])), (b6, .inl (g.2.1 1, 11, .inl P)), (b7, .inl (g.2.1 1, 11, .inl Lc)), (b12, .inl (g.2.1 1, 132, .inl La)), (b13, .inl (g.2.1 1, 132, .inl Lb)), (b48, .inl (g.2.1 3, 12, .inl lw)), (b46, .inl (g.2.1 1, 112, .inl gq29)), (b47, .inl (g.2.1 1, 16, .inl gw30))] := hW
                          refine lv_if_eq (tgt := 276) (pc := 271) hx hb dX12_gossips_271 rfl (fun c32 => ?_) (fun c32 => ?_)
                          · refine lv_iinc (v := nI (i + 1)) (lv' := [(6, .int (nI (i + 1))), (0, .ref h0), (1, .int (nI v)), (2, .int (nI dn)), (3, .int 6), (4, .int (nI (7 * dn))), (5, .int 0), (7, .int (nI (12 * v + i))), (8, .int (G (7 * dn + ea) ||| G (7 * dn + eb))), (9, .int (nI y))]) (pc := 276) hx hb dX12_gossips_276 hl (k := 6) rfl ((nI_succ i).symm) (by decide) rfl (fun ls hl => ?_)
                            refine lv_goto (tgt := 74) (pc := 279) hx hb dX12_gossips_279 rfl ?_
                            have hW : WD g A s _ _ [(h0, .inr (12, [.int i0, .ref b1, .int i2, .int i3, .int i4, .int i5, .ref b6, .ref b7, .ref b8, .ref b9, .ref b10, .ref b11, .ref b12, .ref b13, .ref b14, .ref b15, .ref b16, .ref b17, .int i18, .int i19, .int i20, .ref b21, .ref b22, .ref b23, .ref b24, .ref b25, .ref b26, .int i27, .ref b28, .ref b29, .ref b30, .ref b31, .ref b32, .ref b33, .ref b34, .ref b35, .ref b36, .int i37, .int i38, .int i39, .int i40, .int i41, .int i42, .int i43, .int i44, .int i45, .ref b46, .ref b47, .ref b48, .ref b49, .ref b50, .ref b51, .ref b52, .ref b53, .ref b54, .ref b55, .ref b56, .ref b57, .ref b58, .ref b59, .ref b60, .ref b61, .ref b62, .ref b63])), (b6, .inl (g.2.1 1, 11, .inl P)), (b7, .inl (g.2.1 1, 11, .inl Lc)), (b12, .inl (g.2.1 1, 132, .inl La)), (b13, .inl (g.2.1 1, 132, .inl Lb)), (b48, .inl (g.2.1 3, 12, .inl lw)), (b46, .inl (g.2.1 1, 112, .inl gq29)), (b47, .inl (g.2.1 1, 16, .inl gw30))] := hW.pick [0, 1, 2, 3, 4, 5, 6, 7] rfl rfl
                            exact ih2 (i + 1) gq29 gw30 (by omega) (by omega) (fun x hx => (hq2_gq29 x (by omega)).trans (hG3 x hx)) hgw30 (gno_s hno (by omega) hea heb eA eB (fun ha9 hb9 hw9 hu9 => fun hg9 => absurd (hq1_gq29 (gok_cong hg9 (fun o ho => (hC o ho).symm))) (by rw [c32]; decide))) _ _ _ hW (lv_sub hl [1, 2, 3, 4, 5, 6, 0] rfl)
                          · refine lv_iconst (v := 1) (pc := 274) hx hb dX12_gossips_274 (by decide) ?_
                            exact e_z X hQ hr hW (u := [(h0, .inr (12, [.int i0, .ref b1, .int i2, .int i3, .int i4, .int i5, .ref b6, .ref b7, .ref b8, .ref b9, .ref b10, .ref b11, .ref b12, .ref b13, .ref b14, .ref b15, .ref b16, .ref b17, .int i18, .int i19, .int i20, .ref b21, .ref b22, .ref b23, .ref b24, .ref b25, .ref b26, .int i27, .ref b28, .ref b29, .ref b30, .ref b31, .ref b32, .ref b33, .ref b34, .ref b35, .ref b36, .int i37, .int i38, .int i39, .int i40, .int i41, .int i42, .int i43, .int i44, .int i45, .ref b46, .ref b47, .ref b48, .ref b49, .ref b50, .ref b51, .ref b52, .ref b53, .ref b54, .ref b55, .ref b56, .ref b57, .ref b58, .ref b59, .ref b60, .ref b61, .ref b62, .ref b63])), (b6, .inl (g.2.1 1, 11, .inl P)), (b7, .inl (g.2.1 1, 11, .inl Lc)), (b12, .inl (g.2.1 1, 132, .inl La)), (b13, .inl (g.2.1 1, 132, .inl Lb)), (b48, .inl (g.2.1 3, 12, .inl lw)), (b46, .inl (g.2.1 1, 112, .inl gq29)), (b47, .inl (g.2.1 1, 16, .inl gw30))]) rfl [0, 1, 2, 3, 4, 5, 6, 7] rfl rfl (⟨_, _, Or.inr rfl, fun _ => rfl, fun x hx => (hq2_gq29 x (by omega)).trans (hG3 x hx), hgw30, rfl⟩) ⟨Nat.le_of_ble_eq_true rfl, Nat.le_of_ble_eq_true rfl⟩ dX12_gossips_275
                        · have hyl : y < pp := ge_f (by omega) (by omega) c25
                          refine lv_aload_n (pc := 194) hx hb dX12_gossips_194 rfl (lv_at hl 0 rfl) ?_
                          refine r_get X hW 0 ciX12 46 rfl (by decide) m_1273 rfl rfl dX12_gossips_195 ?_
                          refine lv_iload (pc := 198) hx hb dX12_gossips_198 (lv_at hl 4 rfl) ?_
                          refine lv_bipush (v := 7) (pc := 200) hx hb dX12_gossips_200 (by decide) ?_
                          refine lv_iadd (pc := 202) hx hb dX12_gossips_202 ?_
                          refine lv_topi (fun uv33 euv33 => ?_)
                          obtain rfl : uv33 = nI (7 * dn + 7) := euv33.trans (nI_add _ _)
                          refine lv_iload (pc := 203) hx hb dX12_gossips_203 (lv_at hl 9 rfl) ?_
                          refine lv_iadd (pc := 205) hx hb dX12_gossips_205 ?_
                          refine lv_topi (fun uv34 euv34 => ?_)
                          obtain rfl : uv34 = nI (7 * dn + 7 + y) := euv34.trans (nI_add _ _)
                          refine lv_iload (pc := 206) hx hb dX12_gossips_206 (lv_at hl 9 rfl) ?_
                          refine lv_aload_n (pc := 208) hx hb dX12_gossips_208 rfl (lv_at hl 0 rfl) ?_
                          refine r_get X hW 0 ciX12 12 rfl (by decide) m_1243 rfl rfl dX12_gossips_209 ?_
                          refine lv_iload (pc := 212) hx hb dX12_gossips_212 (lv_at hl 7 rfl) ?_
                          refine r_iald X hW 3 rfl (vp_in_nI (by omega) (by decide)) dX12_gossips_214 ?_
                          refine lv_topi (fun uv35 euv35 => ?_)
                          obtain rfl : uv35 = nI ea := euv35.trans (by rw [nI_clamp (by omega)]; exact eA)
                          refine lv_icmp_eq (tgt := 230) (pc := 215) hx hb dX12_gossips_215 rfl (fun c36 => ?_) (fun c36 => ?_)
                          · refine lv_iload (pc := 230) hx hb dX12_gossips_230 (lv_at hl 8 rfl) ?_
                            refine lv_goto (tgt := 245) (pc := 232) hx hb dX12_gossips_232 rfl ?_
                            obtain ⟨f37, ef37⟩ : ∃ fz : Nat → Int32, upd G3 (nI (7 * dn + 7 + y)).toNatClampNeg (G (7 * dn + ea) ||| G (7 * dn + eb)) = fz := ⟨_, rfl⟩
                            refine r_iast (ws' := [(h0, .inr (12, [.int i0, .ref b1, .int i2, .int i3, .int i4, .int i5, .ref b6, .ref b7, .ref b8, .ref b9, .ref b10, .ref b11, .ref b12, .ref b13, .ref b14, .ref b15, .ref b16, .ref b17, .int i18, .int i19, .int i20, .ref b21, .ref b22, .ref b23, .ref b24, .ref b25, .ref b26, .int i27, .ref b28, .ref b29, .ref b30, .ref b31, .ref b32, .ref b33, .ref b34, .ref b35, .ref b36, .int i37, .int i38, .int i39, .int i40, .int i41, .int i42, .int i43, .int i44, .int i45, .ref b46, .ref b47, .ref b48, .ref b49, .ref b50, .ref b51, .ref b52, .ref b53, .ref b54, .ref b55, .ref b56, .ref b57, .ref b58, .ref b59, .ref b60, .ref b61, .ref b62, .ref b63])), (b6, .inl (g.2.1 1, 11, .inl P)), (b7, .inl (g.2.1 1, 11, .inl Lc)), (b12, .inl (g.2.1 1, 132, .inl La)), (b13, .inl (g.2.1 1, 132, .inl Lb)), (b48, .inl (g.2.1 3, 12, .inl lw)), (b46, .inl (g.2.1 1, 112, .inl f37)), (b47, .inl (g.2.1 1, 16, .inl gr))]) X hW 6 rfl (vp_in_nI (by omega) (by decide)) ef37 rfl dX12_gossips_245 (fun H locs hW => ?_)
                            refine lv_iinc (v := nI (y + 1)) (lv' := [(9, .int (nI (y + 1))), (0, .ref h0), (1, .int (nI v)), (2, .int (nI dn)), (3, .int 6), (4, .int (nI (7 * dn))), (5, .int 0), (6, .int (nI i)), (7, .int (nI (12 * v + i))), (8, .int (G (7 * dn + ea) ||| G (7 * dn + eb)))]) (pc := 246) hx hb dX12_gossips_246 hl (k := 9) rfl ((nI_succ y).symm) (by decide) rfl (fun ls hl => ?_)
                            refine lv_goto (tgt := 183) (pc := 249) hx hb dX12_gossips_249 rfl ?_
                            have hW : WD g A s _ _ [(h0, .inr (12, [.int i0, .ref b1, .int i2, .int i3, .int i4, .int i5, .ref b6, .ref b7, .ref b8, .ref b9, .ref b10, .ref b11, .ref b12, .ref b13, .ref b14, .ref b15, .ref b16, .ref b17, .int i18, .int i19, .int i20, .ref b21, .ref b22, .ref b23, .ref b24, .ref b25, .ref b26, .int i27, .ref b28, .ref b29, .ref b30, .ref b31, .ref b32, .ref b33, .ref b34, .ref b35, .ref b36, .int i37, .int i38, .int i39, .int i40, .int i41, .int i42, .int i43, .int i44, .int i45, .ref b46, .ref b47, .ref b48, .ref b49, .ref b50, .ref b51, .ref b52, .ref b53, .ref b54, .ref b55, .ref b56, .ref b57, .ref b58, .ref b59, .ref b60, .ref b61, .ref b62, .ref b63])), (b6, .inl (g.2.1 1, 11, .inl P)), (b7, .inl (g.2.1 1, 11, .inl Lc)), (b12, .inl (g.2.1 1, 132, .inl La)), (b13, .inl (g.2.1 1, 132, .inl Lb)), (b48, .inl (g.2.1 3, 12, .inl lw)), (b46, .inl (g.2.1 1, 112, .inl f37)), (b47, .inl (g.2.1 1, 16, .inl gr))] := hW.pick [0, 1, 2, 3, 4, 5, 6, 7] rfl rfl
                            exact ih3 (y + 1) f37 (by omega) (by omega) (fun x hx => by
                                rw [← ef37, nI_clamp (by omega)]
                                simp only [upd, show ¬ x = 7 * dn + 7 + y by omega, if_false]
                                exact hG3 x hx) (fun z hz => by
                                rw [← ef37, nI_clamp (by omega)]
                                by_cases e9 : z = y
                                · subst e9; simp only [upd, if_true]; rw [gaft, if_pos (Or.inl (nI_inj6 (by omega) (by omega) c36))]; rfl
                                · simp only [upd, show ¬ 7 * dn + 7 + z = 7 * dn + 7 + y by omega, if_false]; exact hC z (by omega)) _ _ _ hW (lv_sub hl [1, 2, 3, 4, 5, 6, 7, 8, 9, 0] rfl)
                          · refine lv_iload (pc := 218) hx hb dX12_gossips_218 (lv_at hl 9 rfl) ?_
                            refine lv_aload_n (pc := 220) hx hb dX12_gossips_220 rfl (lv_at hl 0 rfl) ?_
                            refine r_get X hW 0 ciX12 13 rfl (by decide) m_1244 rfl rfl dX12_gossips_221 ?_
                            refine lv_iload (pc := 224) hx hb dX12_gossips_224 (lv_at hl 7 rfl) ?_
                            refine r_iald X hW 4 rfl (vp_in_nI (by omega) (by decide)) dX12_gossips_226 ?_
                            refine lv_topi (fun uv38 euv38 => ?_)
                            obtain rfl : uv38 = nI eb := euv38.trans (by rw [nI_clamp (by omega)]; exact eB)
                            refine lv_icmp_ne (tgt := 235) (pc := 227) hx hb dX12_gossips_227 rfl (fun c39 => ?_) (fun c39 => ?_)
                            · refine lv_aload_n (pc := 235) hx hb dX12_gossips_235 rfl (lv_at hl 0 rfl) ?_
                              refine r_get X hW 0 ciX12 46 rfl (by decide) m_1273 rfl rfl dX12_gossips_236 ?_
                              refine lv_iload (pc := 239) hx hb dX12_gossips_239 (lv_at hl 4 rfl) ?_
                              refine lv_iload (pc := 241) hx hb dX12_gossips_241 (lv_at hl 9 rfl) ?_
                              refine lv_iadd (pc := 243) hx hb dX12_gossips_243 ?_
                              refine lv_topi (fun uv40 euv40 => ?_)
                              obtain rfl : uv40 = nI (7 * dn + y) := euv40.trans (nI_add _ _)
                              refine r_iald X hW 6 rfl (vp_in_nI (by omega) (by decide)) dX12_gossips_244 ?_
                              refine lv_topi (fun uv41 euv41 => ?_)
                              obtain rfl : uv41 = G (7 * dn + y) := euv41.trans (by rw [nI_clamp (by omega)]; exact hG3 _ (by omega))
                              obtain ⟨f42, ef42⟩ : ∃ fz : Nat → Int32, upd G3 (nI (7 * dn + 7 + y)).toNatClampNeg (G (7 * dn + y)) = fz := ⟨_, rfl⟩
                              refine r_iast (ws' := [(h0, .inr (12, [.int i0, .ref b1, .int i2, .int i3, .int i4, .int i5, .ref b6, .ref b7, .ref b8, .ref b9, .ref b10, .ref b11, .ref b12, .ref b13, .ref b14, .ref b15, .ref b16, .ref b17, .int i18, .int i19, .int i20, .ref b21, .ref b22, .ref b23, .ref b24, .ref b25, .ref b26, .int i27, .ref b28, .ref b29, .ref b30, .ref b31, .ref b32, .ref b33, .ref b34, .ref b35, .ref b36, .int i37, .int i38, .int i39, .int i40, .int i41, .int i42, .int i43, .int i44, .int i45, .ref b46, .ref b47, .ref b48, .ref b49, .ref b50, .ref b51, .ref b52, .ref b53, .ref b54, .ref b55, .ref b56, .ref b57, .ref b58, .ref b59, .ref b60, .ref b61, .ref b62, .ref b63])), (b6, .inl (g.2.1 1, 11, .inl P)), (b7, .inl (g.2.1 1, 11, .inl Lc)), (b12, .inl (g.2.1 1, 132, .inl La)), (b13, .inl (g.2.1 1, 132, .inl Lb)), (b48, .inl (g.2.1 3, 12, .inl lw)), (b46, .inl (g.2.1 1, 112, .inl f42)), (b47, .inl (g.2.1 1, 16, .inl gr))]) X hW 6 rfl (vp_in_nI (by omega) (by decide)) ef42 rfl dX12_gossips_245 (fun H locs hW => ?_)
                              refine lv_iinc (v := nI (y + 1)) (lv' := [(9, .int (nI (y + 1))), (0, .ref h0), (1, .int (nI v)), (2, .int (nI dn)), (3, .int 6), (4, .int (nI (7 * dn))), (5, .int 0), (6, .int (nI i)), (7, .int (nI (12 * v + i))), (8, .int (G (7 * dn + ea) ||| G (7 * dn + eb)))]) (pc := 246) hx hb dX12_gossips_246 hl (k := 9) rfl ((nI_succ y).symm) (by decide) rfl (fun ls hl => ?_)
                              refine lv_goto (tgt := 183) (pc := 249) hx hb dX12_gossips_249 rfl ?_
                              have hW : WD g A s _ _ [(h0, .inr (12, [.int i0, .ref b1, .int i2, .int i3, .int i4, .int i5, .ref b6, .ref b7, .ref b8, .ref b9, .ref b10, .ref b11, .ref b12, .ref b13, .ref b14, .ref b15, .ref b16, .ref b17, .int i18, .int i19, .int i20, .ref b21, .ref b22, .ref b23, .ref b24, .ref b25, .ref b26, .int i27, .ref b28, .ref b29, .ref b30, .ref b31, .ref b32, .ref b33, .ref b34, .ref b35, .ref b36, .int i37, .int i38, .int i39, .int i40, .int i41, .int i42, .int i43, .int i44, .int i45, .ref b46, .ref b47, .ref b48, .ref b49, .ref b50, .ref b51, .ref b52, .ref b53, .ref b54, .ref b55, .ref b56, .ref b57, .ref b58, .ref b59, .ref b60, .ref b61, .ref b62, .ref b63])), (b6, .inl (g.2.1 1, 11, .inl P)), (b7, .inl (g.2.1 1, 11, .inl Lc)), (b12, .inl (g.2.1 1, 132, .inl La)), (b13, .inl (g.2.1 1, 132, .inl Lb)), (b48, .inl (g.2.1 3, 12, .inl lw)), (b46, .inl (g.2.1 1, 112, .inl f42)), (b47, .inl (g.2.1 1, 16, .inl gr))] := hW.pick [0, 1, 2, 3, 4, 5, 6, 7] rfl rfl
                              exact ih3 (y + 1) f42 (by omega) (by omega) (fun x hx => by
                                  rw [← ef42, nI_clamp (by omega)]
                                  simp only [upd, show ¬ x = 7 * dn + 7 + y by omega, if_false]
                                  exact hG3 x hx) (fun z hz => by
                                  rw [← ef42, nI_clamp (by omega)]
                                  by_cases e9 : z = y
                                  · subst e9; simp only [upd, if_true]; rw [gaft, if_neg (fun q => q.elim (fun r => c36 (congrArg nI r)) (fun r => c39 (congrArg nI r)))]; rfl
                                  · simp only [upd, show ¬ 7 * dn + 7 + z = 7 * dn + 7 + y by omega, if_false]; exact hC z (by omega)) _ _ _ hW (lv_sub hl [1, 2, 3, 4, 5, 6, 7, 8, 9, 0] rfl)
                            · refine lv_iload (pc := 230) hx hb dX12_gossips_230 (lv_at hl 8 rfl) ?_
                              refine lv_goto (tgt := 245) (pc := 232) hx hb dX12_gossips_232 rfl ?_
                              obtain ⟨f43, ef43⟩ : ∃ fz : Nat → Int32, upd G3 (nI (7 * dn + 7 + y)).toNatClampNeg (G (7 * dn + ea) ||| G (7 * dn + eb)) = fz := ⟨_, rfl⟩
                              refine r_iast (ws' := [(h0, .inr (12, [.int i0, .ref b1, .int i2, .int i3, .int i4, .int i5, .ref b6, .ref b7, .ref b8, .ref b9, .ref b10, .ref b11, .ref b12, .ref b13, .ref b14, .ref b15, .ref b16, .ref b17, .int i18, .int i19, .int i20, .ref b21, .ref b22, .ref b23, .ref b24, .ref b25, .ref b26, .int i27, .ref b28, .ref b29, .ref b30, .ref b31, .ref b32, .ref b33, .ref b34, .ref b35, .ref b36, .int i37, .int i38, .int i39, .int i40, .int i41, .int i42, .int i43, .int i44, .int i45, .ref b46, .ref b47, .ref b48, .ref b49, .ref b50, .ref b51, .ref b52, .ref b53, .ref b54, .ref b55, .ref b56, .ref b57, .ref b58, .ref b59, .ref b60, .ref b61, .ref b62, .ref b63])), (b6, .inl (g.2.1 1, 11, .inl P)), (b7, .inl (g.2.1 1, 11, .inl Lc)), (b12, .inl (g.2.1 1, 132, .inl La)), (b13, .inl (g.2.1 1, 132, .inl Lb)), (b48, .inl (g.2.1 3, 12, .inl lw)), (b46, .inl (g.2.1 1, 112, .inl f43)), (b47, .inl (g.2.1 1, 16, .inl gr))]) X hW 6 rfl (vp_in_nI (by omega) (by decide)) ef43 rfl dX12_gossips_245 (fun H locs hW => ?_)
                              refine lv_iinc (v := nI (y + 1)) (lv' := [(9, .int (nI (y + 1))), (0, .ref h0), (1, .int (nI v)), (2, .int (nI dn)), (3, .int 6), (4, .int (nI (7 * dn))), (5, .int 0), (6, .int (nI i)), (7, .int (nI (12 * v + i))), (8, .int (G (7 * dn + ea) ||| G (7 * dn + eb)))]) (pc := 246) hx hb dX12_gossips_246 hl (k := 9) rfl ((nI_succ y).symm) (by decide) rfl (fun ls hl => ?_)
                              refine lv_goto (tgt := 183) (pc := 249) hx hb dX12_gossips_249 rfl ?_
                              have hW : WD g A s _ _ [(h0, .inr (12, [.int i0, .ref b1, .int i2, .int i3, .int i4, .int i5, .ref b6, .ref b7, .ref b8, .ref b9, .ref b10, .ref b11, .ref b12, .ref b13, .ref b14, .ref b15, .ref b16, .ref b17, .int i18, .int i19, .int i20, .ref b21, .ref b22, .ref b23, .ref b24, .ref b25, .ref b26, .int i27, .ref b28, .ref b29, .ref b30, .ref b31, .ref b32, .ref b33, .ref b34, .ref b35, .ref b36, .int i37, .int i38, .int i39, .int i40, .int i41, .int i42, .int i43, .int i44, .int i45, .ref b46, .ref b47, .ref b48, .ref b49, .ref b50, .ref b51, .ref b52, .ref b53, .ref b54, .ref b55, .ref b56, .ref b57, .ref b58, .ref b59, .ref b60, .ref b61, .ref b62, .ref b63])), (b6, .inl (g.2.1 1, 11, .inl P)), (b7, .inl (g.2.1 1, 11, .inl Lc)), (b12, .inl (g.2.1 1, 132, .inl La)), (b13, .inl (g.2.1 1, 132, .inl Lb)), (b48, .inl (g.2.1 3, 12, .inl lw)), (b46, .inl (g.2.1 1, 112, .inl f43)), (b47, .inl (g.2.1 1, 16, .inl gr))] := hW.pick [0, 1, 2, 3, 4, 5, 6, 7] rfl rfl
                              exact ih3 (y + 1) f43 (by omega) (by omega) (fun x hx => by
                                  rw [← ef43, nI_clamp (by omega)]
                                  simp only [upd, show ¬ x = 7 * dn + 7 + y by omega, if_false]
                                  exact hG3 x hx) (fun z hz => by
                                  rw [← ef43, nI_clamp (by omega)]
                                  by_cases e9 : z = y
                                  · subst e9; simp only [upd, if_true]; rw [gaft, if_pos (Or.inr (nI_inj6 (by omega) (by omega) c39))]; rfl
                                  · simp only [upd, show ¬ 7 * dn + 7 + z = 7 * dn + 7 + y by omega, if_false]; exact hC z (by omega)) _ _ _ hW (lv_sub hl [1, 2, 3, 4, 5, 6, 7, 8, 9, 0] rfl)
                    exact loop3 (pp + 1) 0 G2 (by omega) (Nat.zero_le _) hG2 (fun z hz => absurd hz (Nat.not_lt_zero z)) _ _ _ hW (lv_sub hl [3, 4, 5, 6, 7, 8, 9, 2, 1, 0] rfl)
                  · have h_eA := c23
                    refine lv_aload_n (pc := 157) hx hb dX12_gossips_157 rfl (lv_at hl 2 rfl) ?_
                    refine r_get X hW 0 ciX12 46 rfl (by decide) m_1273 rfl rfl dX12_gossips_158 ?_
                    refine lv_iload (pc := 161) hx hb dX12_gossips_161 (lv_at hl 6 rfl) ?_
                    refine lv_aload_n (pc := 163) hx hb dX12_gossips_163 rfl (lv_at hl 2 rfl) ?_
                    refine r_get X hW 0 ciX12 13 rfl (by decide) m_1244 rfl rfl dX12_gossips_164 ?_
                    refine lv_iload (pc := 167) hx hb dX12_gossips_167 (lv_at hl 1 rfl) ?_
                    refine r_iald X hW 4 rfl (vp_in_nI (by omega) (by decide)) dX12_gossips_169 ?_
                    refine lv_topi (fun uv44 euv44 => ?_)
                    obtain rfl : uv44 = nI eb := euv44.trans (by rw [nI_clamp (by omega)]; exact eB)
                    refine lv_iadd (pc := 170) hx hb dX12_gossips_170 ?_
                    refine lv_topi (fun uv45 euv45 => ?_)
                    obtain rfl : uv45 = nI (7 * dn + eb) := euv45.trans (nI_add _ _)
                    refine r_iald X hW 6 rfl (vp_in_nI (by omega) (by decide)) dX12_gossips_171 ?_
                    refine lv_topi (fun uv46 euv46 => ?_)
                    obtain rfl : uv46 = G (7 * dn + eb) := euv46.trans (by rw [nI_clamp (by omega)]; exact hG2 _ (by omega))
                    refine lv_iload (pc := 172) hx hb dX12_gossips_172 (lv_at hl 0 rfl) ?_
                    refine lv_icmp_ne (tgt := 180) (pc := 174) hx hb dX12_gossips_174 rfl (fun c47 => ?_) (fun c47 => ?_)
                    · refine lv_iconst (v := 0) (pc := 180) hx hb dX12_gossips_180 (by decide) ?_
                      refine lv_istore (lv' := [(9, .int 0), (8, .int (G (7 * dn + ea) ||| G (7 * dn + eb))), (7, .int (nI (12 * v + i))), (0, .ref h0), (1, .int (nI v)), (2, .int (nI dn)), (3, .int 6), (4, .int (nI (7 * dn))), (5, .int 0), (6, .int (nI i))]) (pc := 181) hx hb dX12_gossips_181 hl (by decide) rfl (fun ls hl => ?_)
                      have loop3 : ∀ (fx : Nat) (y : Nat) (G3 : Nat → Int32), (pp < fx + y) → (y ≤ pp) → (∀ x : Nat, x < 7 * (dn + 1) → G3 x = G x) → (∀ z : Nat, z < y → G3 (7 * dn + 7 + z) = gaft (rwt G dn) ea eb z) → ∀ (H : Heap) (locs : List Loc) (ls : Array Slot), WD g A s H locs [(h0, .inr (12, [.int i0, .ref b1, .int i2, .int i3, .int i4, .int i5, .ref b6, .ref b7, .ref b8, .ref b9, .ref b10, .ref b11, .ref b12, .ref b13, .ref b14, .ref b15, .ref b16, .ref b17, .int i18, .int i19, .int i20, .ref b21, .ref b22, .ref b23, .ref b24, .ref b25, .ref b26, .int i27, .ref b28, .ref b29, .ref b30, .ref b31, .ref b32, .ref b33, .ref b34, .ref b35, .ref b36, .int i37, .int i38, .int i39, .int i40, .int i41, .int i42, .int i43, .int i44, .int i45, .ref b46, .ref b47, .ref b48, .ref b49, .ref b50, .ref b51, .ref b52, .ref b53, .ref b54, .ref b55, .ref b56, .ref b57, .ref b58, .ref b59, .ref b60, .ref b61, .ref b62, .ref b63])), (b6, .inl (g.2.1 1, 11, .inl P)), (b7, .inl (g.2.1 1, 11, .inl Lc)), (b12, .inl (g.2.1 1, 132, .inl La)), (b13, .inl (g.2.1 1, 132, .inl Lb)), (b48, .inl (g.2.1 3, 12, .inl lw)), (b46, .inl (g.2.1 1, 112, .inl G3)), (b47, .inl (g.2.1 1, 16, .inl gr))] → lv_has ls 10 [(0, .ref h0), (1, .int (nI v)), (2, .int (nI dn)), (3, .int 6), (4, .int (nI (7 * dn))), (5, .int 0), (6, .int (nI i)), (7, .int (nI (12 * v + i))), (8, .int (G (7 * dn + ea) ||| G (7 * dn + eb))), (9, .int (nI y))] → W p l e (RM 7 0 0) s m args below meth c H locs 0 0 Q (F0 m 183 ls []) := by
                        intro fx
                        induction fx with
                        | zero =>
                          intro y G3 hm3 hy hG3 hC
                          exact absurd hm3 (by omega)
                        | succ fx ih3 =>
                          intro y G3 hm3 hy hG3 hC H locs ls hW hl
                          refine lv_iload (pc := 183) hx hb dX12_gossips_183 (lv_at hl 9 rfl) ?_
                          refine lv_aload_n (pc := 185) hx hb dX12_gossips_185 rfl (lv_at hl 0 rfl) ?_
                          refine r_get X hW 0 ciX12 6 rfl (by decide) m_1237 rfl rfl dX12_gossips_186 ?_
                          refine lv_iload_n (pc := 189) hx hb dX12_gossips_189 rfl (lv_at hl 1 rfl) ?_
                          refine r_iald X hW 1 rfl (vp_in_nI (by omega) (by decide)) dX12_gossips_190 ?_
                          refine lv_topi (fun uv48 euv48 => ?_)
                          obtain rfl : uv48 = nI pp := euv48.trans (by rw [nI_clamp (by omega)]; exact hP)
                          refine lv_icmp_ge (tgt := 252) (pc := 191) hx hb dX12_gossips_191 rfl (fun c49 => ?_) (fun c49 => ?_)
                          · have hyk : y = pp := Nat.le_antisymm hy (ge_t (by omega) (by omega) c49)
                            rw [hyk] at hC
                            refine lv_aload_n (pc := 252) hx hb dX12_gossips_252 rfl (lv_at hl 0 rfl) ?_
                            refine r_get X hW 0 ciX12 47 rfl (by decide) m_1274 rfl rfl dX12_gossips_253 ?_
                            refine lv_iload_n (pc := 256) hx hb dX12_gossips_256 rfl (lv_at hl 2 rfl) ?_
                            refine lv_iload (pc := 257) hx hb dX12_gossips_257 (lv_at hl 6 rfl) ?_
                            obtain ⟨f50, ef50⟩ : ∃ fz : Nat → Int32, upd gr (nI dn).toNatClampNeg (nI i) = fz := ⟨_, rfl⟩
                            refine r_iast (ws' := [(h0, .inr (12, [.int i0, .ref b1, .int i2, .int i3, .int i4, .int i5, .ref b6, .ref b7, .ref b8, .ref b9, .ref b10, .ref b11, .ref b12, .ref b13, .ref b14, .ref b15, .ref b16, .ref b17, .int i18, .int i19, .int i20, .ref b21, .ref b22, .ref b23, .ref b24, .ref b25, .ref b26, .int i27, .ref b28, .ref b29, .ref b30, .ref b31, .ref b32, .ref b33, .ref b34, .ref b35, .ref b36, .int i37, .int i38, .int i39, .int i40, .int i41, .int i42, .int i43, .int i44, .int i45, .ref b46, .ref b47, .ref b48, .ref b49, .ref b50, .ref b51, .ref b52, .ref b53, .ref b54, .ref b55, .ref b56, .ref b57, .ref b58, .ref b59, .ref b60, .ref b61, .ref b62, .ref b63])), (b6, .inl (g.2.1 1, 11, .inl P)), (b7, .inl (g.2.1 1, 11, .inl Lc)), (b12, .inl (g.2.1 1, 132, .inl La)), (b13, .inl (g.2.1 1, 132, .inl Lb)), (b48, .inl (g.2.1 3, 12, .inl lw)), (b46, .inl (g.2.1 1, 112, .inl G3)), (b47, .inl (g.2.1 1, 16, .inl f50))]) X hW 7 rfl (vp_in_nI (by omega) (by decide)) ef50 rfl dX12_gossips_259 (fun H locs hW => ?_)
                            have hg_f50 : gb16 f50 := by rw [← ef50]; exact gb16_upd hgr (by omega)
                            refine lv_aload_n (pc := 260) hx hb dX12_gossips_260 rfl (lv_at hl 0 rfl) ?_
                            refine lv_iload_n (pc := 261) hx hb dX12_gossips_261 rfl (lv_at hl 1 rfl) ?_
                            refine lv_iload_n (pc := 262) hx hb dX12_gossips_262 rfl (lv_at hl 2 rfl) ?_
                            refine lv_iconst (v := 1) (pc := 263) hx hb dX12_gossips_263 (by decide) ?_
                            refine lv_iadd (pc := 264) hx hb dX12_gossips_264 ?_
                            refine lv_topi (fun uv51 euv51 => ?_)
                            obtain rfl : uv51 = nI (dn + 1) := euv51.trans (nI_1 _)
                            refine lv_iload_n (pc := 265) hx hb dX12_gossips_265 rfl (lv_at hl 3 rfl) ?_
                            refine lv_iconst (v := 1) (pc := 266) hx hb dX12_gossips_266 (by decide) ?_
                            refine lv_isub (pc := 267) hx hb dX12_gossips_267 ?_
                            refine lv_topi (fun uv52 euv52 => ?_)
                            obtain rfl : uv52 = 5 := euv52.trans (by decide +kernel)
                            refine c_Vi (pc := 268) (As := [.int (nI v), .int (nI (dn + 1)), .int 5]) (rest := []) (wr := []) X hW 0 ciX12 rfl (C_X12_gossips_5 l g h0 b1 b6 b7 b8 b9 b10 b11 b12 b13 b14 b15 b16 b17 b21 b22 b23 b24 b25 b26 b28 b29 b30 b31 b32 b33 b34 b35 b36 b46 b47 b48 b49 b50 b51 b52 b53 b54 b55 b56 b57 b58 b59 b60 b61 b62 b63 i0 i2 i3 i4 i5 i18 i19 i20 i27 i37 i38 i39 i40 i41 i42 i43 i44 i45 P Lc La Lb lw G3 f50 v lc pp (dn + 1) hv hlc hpp hP hLc hLA hLB hg_f50 (by omega)) vX12_346 [0, 1, 2, 3, 4, 5, 6, 7] [] rfl rfl rfl rfl rfl rfl hl.1 rfl (Nat.le_of_ble_eq_true rfl) ⟨Nat.le_of_ble_eq_true rfl, Nat.le_of_ble_eq_true rfl⟩ ⟨Nat.le_of_ble_eq_true rfl, Nat.le_of_ble_eq_true rfl⟩ dX12_gossips_268 (fun r55 u9 H locs hq hW => ?_)
                            obtain ⟨gq53, gw54, -, hq1_gq53, hq2_gq53, hgw54, rfl⟩ := hq
                            have hW : WD g A s _ _ [(h0, .inr (12, [.int i0, .ref b1, .int i2, .int i3, .int i4, .int i5, .ref b6, .ref b7, .ref b8, .ref b9, .ref b10, .ref b11, .ref b12, .ref b13, .ref b14, .ref b15, .ref b16, .ref b17, .int i18, .int i19, .int i20, .ref b21, .ref b22, .ref b23, .ref b24, .ref b25, .ref b26, .int i27, .ref b28, .ref b29, .ref b30, .ref b31, .ref b32, .ref b33, .ref b34, .ref b35, .ref b36, .int i37, .int i38, .int i39, .int i40, .int i41, .int i42, .int i43, .int i44, .int i45, .ref b46, .ref b47, .ref b48, .ref b49, .ref b50, .ref b51, .ref b52, .ref b53, .ref b54, .ref b55, .ref b56, .ref b57, .ref b58, .ref b59, .ref b60, .ref b61, .ref b62, .ref b63])), (b6, .inl (g.2.1 1, 11, .inl P)), (b7, .inl (g.2.1 1, 11, .inl Lc)), (b12, .inl (g.2.1 1, 132, .inl La)), (b13, .inl (g.2.1 1, 132, .inl Lb)), (b48, .inl (g.2.1 3, 12, .inl lw)), (b46, .inl (g.2.1 1, 112, .inl gq53)), (b47, .inl (g.2.1 1, 16, .inl gw54))] := hW
                            refine lv_if_eq (tgt := 276) (pc := 271) hx hb dX12_gossips_271 rfl (fun c56 => ?_) (fun c56 => ?_)
                            · refine lv_iinc (v := nI (i + 1)) (lv' := [(6, .int (nI (i + 1))), (0, .ref h0), (1, .int (nI v)), (2, .int (nI dn)), (3, .int 6), (4, .int (nI (7 * dn))), (5, .int 0), (7, .int (nI (12 * v + i))), (8, .int (G (7 * dn + ea) ||| G (7 * dn + eb))), (9, .int (nI y))]) (pc := 276) hx hb dX12_gossips_276 hl (k := 6) rfl ((nI_succ i).symm) (by decide) rfl (fun ls hl => ?_)
                              refine lv_goto (tgt := 74) (pc := 279) hx hb dX12_gossips_279 rfl ?_
                              have hW : WD g A s _ _ [(h0, .inr (12, [.int i0, .ref b1, .int i2, .int i3, .int i4, .int i5, .ref b6, .ref b7, .ref b8, .ref b9, .ref b10, .ref b11, .ref b12, .ref b13, .ref b14, .ref b15, .ref b16, .ref b17, .int i18, .int i19, .int i20, .ref b21, .ref b22, .ref b23, .ref b24, .ref b25, .ref b26, .int i27, .ref b28, .ref b29, .ref b30, .ref b31, .ref b32, .ref b33, .ref b34, .ref b35, .ref b36, .int i37, .int i38, .int i39, .int i40, .int i41, .int i42, .int i43, .int i44, .int i45, .ref b46, .ref b47, .ref b48, .ref b49, .ref b50, .ref b51, .ref b52, .ref b53, .ref b54, .ref b55, .ref b56, .ref b57, .ref b58, .ref b59, .ref b60, .ref b61, .ref b62, .ref b63])), (b6, .inl (g.2.1 1, 11, .inl P)), (b7, .inl (g.2.1 1, 11, .inl Lc)), (b12, .inl (g.2.1 1, 132, .inl La)), (b13, .inl (g.2.1 1, 132, .inl Lb)), (b48, .inl (g.2.1 3, 12, .inl lw)), (b46, .inl (g.2.1 1, 112, .inl gq53)), (b47, .inl (g.2.1 1, 16, .inl gw54))] := hW.pick [0, 1, 2, 3, 4, 5, 6, 7] rfl rfl
                              exact ih2 (i + 1) gq53 gw54 (by omega) (by omega) (fun x hx => (hq2_gq53 x (by omega)).trans (hG3 x hx)) hgw54 (gno_s hno (by omega) hea heb eA eB (fun ha9 hb9 hw9 hu9 => fun hg9 => absurd (hq1_gq53 (gok_cong hg9 (fun o ho => (hC o ho).symm))) (by rw [c56]; decide))) _ _ _ hW (lv_sub hl [1, 2, 3, 4, 5, 6, 0] rfl)
                            · refine lv_iconst (v := 1) (pc := 274) hx hb dX12_gossips_274 (by decide) ?_
                              exact e_z X hQ hr hW (u := [(h0, .inr (12, [.int i0, .ref b1, .int i2, .int i3, .int i4, .int i5, .ref b6, .ref b7, .ref b8, .ref b9, .ref b10, .ref b11, .ref b12, .ref b13, .ref b14, .ref b15, .ref b16, .ref b17, .int i18, .int i19, .int i20, .ref b21, .ref b22, .ref b23, .ref b24, .ref b25, .ref b26, .int i27, .ref b28, .ref b29, .ref b30, .ref b31, .ref b32, .ref b33, .ref b34, .ref b35, .ref b36, .int i37, .int i38, .int i39, .int i40, .int i41, .int i42, .int i43, .int i44, .int i45, .ref b46, .ref b47, .ref b48, .ref b49, .ref b50, .ref b51, .ref b52, .ref b53, .ref b54, .ref b55, .ref b56, .ref b57, .ref b58, .ref b59, .ref b60, .ref b61, .ref b62, .ref b63])), (b6, .inl (g.2.1 1, 11, .inl P)), (b7, .inl (g.2.1 1, 11, .inl Lc)), (b12, .inl (g.2.1 1, 132, .inl La)), (b13, .inl (g.2.1 1, 132, .inl Lb)), (b48, .inl (g.2.1 3, 12, .inl lw)), (b46, .inl (g.2.1 1, 112, .inl gq53)), (b47, .inl (g.2.1 1, 16, .inl gw54))]) rfl [0, 1, 2, 3, 4, 5, 6, 7] rfl rfl (⟨_, _, Or.inr rfl, fun _ => rfl, fun x hx => (hq2_gq53 x (by omega)).trans (hG3 x hx), hgw54, rfl⟩) ⟨Nat.le_of_ble_eq_true rfl, Nat.le_of_ble_eq_true rfl⟩ dX12_gossips_275
                          · have hyl : y < pp := ge_f (by omega) (by omega) c49
                            refine lv_aload_n (pc := 194) hx hb dX12_gossips_194 rfl (lv_at hl 0 rfl) ?_
                            refine r_get X hW 0 ciX12 46 rfl (by decide) m_1273 rfl rfl dX12_gossips_195 ?_
                            refine lv_iload (pc := 198) hx hb dX12_gossips_198 (lv_at hl 4 rfl) ?_
                            refine lv_bipush (v := 7) (pc := 200) hx hb dX12_gossips_200 (by decide) ?_
                            refine lv_iadd (pc := 202) hx hb dX12_gossips_202 ?_
                            refine lv_topi (fun uv57 euv57 => ?_)
                            obtain rfl : uv57 = nI (7 * dn + 7) := euv57.trans (nI_add _ _)
                            refine lv_iload (pc := 203) hx hb dX12_gossips_203 (lv_at hl 9 rfl) ?_
                            refine lv_iadd (pc := 205) hx hb dX12_gossips_205 ?_
                            refine lv_topi (fun uv58 euv58 => ?_)
                            obtain rfl : uv58 = nI (7 * dn + 7 + y) := euv58.trans (nI_add _ _)
                            refine lv_iload (pc := 206) hx hb dX12_gossips_206 (lv_at hl 9 rfl) ?_
                            refine lv_aload_n (pc := 208) hx hb dX12_gossips_208 rfl (lv_at hl 0 rfl) ?_
                            refine r_get X hW 0 ciX12 12 rfl (by decide) m_1243 rfl rfl dX12_gossips_209 ?_
                            refine lv_iload (pc := 212) hx hb dX12_gossips_212 (lv_at hl 7 rfl) ?_
                            refine r_iald X hW 3 rfl (vp_in_nI (by omega) (by decide)) dX12_gossips_214 ?_
                            refine lv_topi (fun uv59 euv59 => ?_)
                            obtain rfl : uv59 = nI ea := euv59.trans (by rw [nI_clamp (by omega)]; exact eA)
                            refine lv_icmp_eq (tgt := 230) (pc := 215) hx hb dX12_gossips_215 rfl (fun c60 => ?_) (fun c60 => ?_)
                            · refine lv_iload (pc := 230) hx hb dX12_gossips_230 (lv_at hl 8 rfl) ?_
                              refine lv_goto (tgt := 245) (pc := 232) hx hb dX12_gossips_232 rfl ?_
                              obtain ⟨f61, ef61⟩ : ∃ fz : Nat → Int32, upd G3 (nI (7 * dn + 7 + y)).toNatClampNeg (G (7 * dn + ea) ||| G (7 * dn + eb)) = fz := ⟨_, rfl⟩
                              refine r_iast (ws' := [(h0, .inr (12, [.int i0, .ref b1, .int i2, .int i3, .int i4, .int i5, .ref b6, .ref b7, .ref b8, .ref b9, .ref b10, .ref b11, .ref b12, .ref b13, .ref b14, .ref b15, .ref b16, .ref b17, .int i18, .int i19, .int i20, .ref b21, .ref b22, .ref b23, .ref b24, .ref b25, .ref b26, .int i27, .ref b28, .ref b29, .ref b30, .ref b31, .ref b32, .ref b33, .ref b34, .ref b35, .ref b36, .int i37, .int i38, .int i39, .int i40, .int i41, .int i42, .int i43, .int i44, .int i45, .ref b46, .ref b47, .ref b48, .ref b49, .ref b50, .ref b51, .ref b52, .ref b53, .ref b54, .ref b55, .ref b56, .ref b57, .ref b58, .ref b59, .ref b60, .ref b61, .ref b62, .ref b63])), (b6, .inl (g.2.1 1, 11, .inl P)), (b7, .inl (g.2.1 1, 11, .inl Lc)), (b12, .inl (g.2.1 1, 132, .inl La)), (b13, .inl (g.2.1 1, 132, .inl Lb)), (b48, .inl (g.2.1 3, 12, .inl lw)), (b46, .inl (g.2.1 1, 112, .inl f61)), (b47, .inl (g.2.1 1, 16, .inl gr))]) X hW 6 rfl (vp_in_nI (by omega) (by decide)) ef61 rfl dX12_gossips_245 (fun H locs hW => ?_)
                              refine lv_iinc (v := nI (y + 1)) (lv' := [(9, .int (nI (y + 1))), (0, .ref h0), (1, .int (nI v)), (2, .int (nI dn)), (3, .int 6), (4, .int (nI (7 * dn))), (5, .int 0), (6, .int (nI i)), (7, .int (nI (12 * v + i))), (8, .int (G (7 * dn + ea) ||| G (7 * dn + eb)))]) (pc := 246) hx hb dX12_gossips_246 hl (k := 9) rfl ((nI_succ y).symm) (by decide) rfl (fun ls hl => ?_)
                              refine lv_goto (tgt := 183) (pc := 249) hx hb dX12_gossips_249 rfl ?_
                              have hW : WD g A s _ _ [(h0, .inr (12, [.int i0, .ref b1, .int i2, .int i3, .int i4, .int i5, .ref b6, .ref b7, .ref b8, .ref b9, .ref b10, .ref b11, .ref b12, .ref b13, .ref b14, .ref b15, .ref b16, .ref b17, .int i18, .int i19, .int i20, .ref b21, .ref b22, .ref b23, .ref b24, .ref b25, .ref b26, .int i27, .ref b28, .ref b29, .ref b30, .ref b31, .ref b32, .ref b33, .ref b34, .ref b35, .ref b36, .int i37, .int i38, .int i39, .int i40, .int i41, .int i42, .int i43, .int i44, .int i45, .ref b46, .ref b47, .ref b48, .ref b49, .ref b50, .ref b51, .ref b52, .ref b53, .ref b54, .ref b55, .ref b56, .ref b57, .ref b58, .ref b59, .ref b60, .ref b61, .ref b62, .ref b63])), (b6, .inl (g.2.1 1, 11, .inl P)), (b7, .inl (g.2.1 1, 11, .inl Lc)), (b12, .inl (g.2.1 1, 132, .inl La)), (b13, .inl (g.2.1 1, 132, .inl Lb)), (b48, .inl (g.2.1 3, 12, .inl lw)), (b46, .inl (g.2.1 1, 112, .inl f61)), (b47, .inl (g.2.1 1, 16, .inl gr))] := hW.pick [0, 1, 2, 3, 4, 5, 6, 7] rfl rfl
                              exact ih3 (y + 1) f61 (by omega) (by omega) (fun x hx => by
                                  rw [← ef61, nI_clamp (by omega)]
                                  simp only [upd, show ¬ x = 7 * dn + 7 + y by omega, if_false]
                                  exact hG3 x hx) (fun z hz => by
                                  rw [← ef61, nI_clamp (by omega)]
                                  by_cases e9 : z = y
                                  · subst e9; simp only [upd, if_true]; rw [gaft, if_pos (Or.inl (nI_inj6 (by omega) (by omega) c60))]; rfl
                                  · simp only [upd, show ¬ 7 * dn + 7 + z = 7 * dn + 7 + y by omega, if_false]; exact hC z (by omega)) _ _ _ hW (lv_sub hl [1, 2, 3, 4, 5, 6, 7, 8, 9, 0] rfl)
                            · refine lv_iload (pc := 218) hx hb dX12_gossips_218 (lv_at hl 9 rfl) ?_
                              refine lv_aload_n (pc := 220) hx hb dX12_gossips_220 rfl (lv_at hl 0 rfl) ?_
                              refine r_get X hW 0 ciX12 13 rfl (by decide) m_1244 rfl rfl dX12_gossips_221 ?_
                              refine lv_iload (pc := 224) hx hb dX12_gossips_224 (lv_at hl 7 rfl) ?_
                              refine r_iald X hW 4 rfl (vp_in_nI (by omega) (by decide)) dX12_gossips_226 ?_
                              refine lv_topi (fun uv62 euv62 => ?_)
                              obtain rfl : uv62 = nI eb := euv62.trans (by rw [nI_clamp (by omega)]; exact eB)
                              refine lv_icmp_ne (tgt := 235) (pc := 227) hx hb dX12_gossips_227 rfl (fun c63 => ?_) (fun c63 => ?_)
                              · refine lv_aload_n (pc := 235) hx hb dX12_gossips_235 rfl (lv_at hl 0 rfl) ?_
                                refine r_get X hW 0 ciX12 46 rfl (by decide) m_1273 rfl rfl dX12_gossips_236 ?_
                                refine lv_iload (pc := 239) hx hb dX12_gossips_239 (lv_at hl 4 rfl) ?_
                                refine lv_iload (pc := 241) hx hb dX12_gossips_241 (lv_at hl 9 rfl) ?_
                                refine lv_iadd (pc := 243) hx hb dX12_gossips_243 ?_
                                refine lv_topi (fun uv64 euv64 => ?_)
                                obtain rfl : uv64 = nI (7 * dn + y) := euv64.trans (nI_add _ _)
                                refine r_iald X hW 6 rfl (vp_in_nI (by omega) (by decide)) dX12_gossips_244 ?_
                                refine lv_topi (fun uv65 euv65 => ?_)
                                obtain rfl : uv65 = G (7 * dn + y) := euv65.trans (by rw [nI_clamp (by omega)]; exact hG3 _ (by omega))
                                obtain ⟨f66, ef66⟩ : ∃ fz : Nat → Int32, upd G3 (nI (7 * dn + 7 + y)).toNatClampNeg (G (7 * dn + y)) = fz := ⟨_, rfl⟩
                                refine r_iast (ws' := [(h0, .inr (12, [.int i0, .ref b1, .int i2, .int i3, .int i4, .int i5, .ref b6, .ref b7, .ref b8, .ref b9, .ref b10, .ref b11, .ref b12, .ref b13, .ref b14, .ref b15, .ref b16, .ref b17, .int i18, .int i19, .int i20, .ref b21, .ref b22, .ref b23, .ref b24, .ref b25, .ref b26, .int i27, .ref b28, .ref b29, .ref b30, .ref b31, .ref b32, .ref b33, .ref b34, .ref b35, .ref b36, .int i37, .int i38, .int i39, .int i40, .int i41, .int i42, .int i43, .int i44, .int i45, .ref b46, .ref b47, .ref b48, .ref b49, .ref b50, .ref b51, .ref b52, .ref b53, .ref b54, .ref b55, .ref b56, .ref b57, .ref b58, .ref b59, .ref b60, .ref b61, .ref b62, .ref b63])), (b6, .inl (g.2.1 1, 11, .inl P)), (b7, .inl (g.2.1 1, 11, .inl Lc)), (b12, .inl (g.2.1 1, 132, .inl La)), (b13, .inl (g.2.1 1, 132, .inl Lb)), (b48, .inl (g.2.1 3, 12, .inl lw)), (b46, .inl (g.2.1 1, 112, .inl f66)), (b47, .inl (g.2.1 1, 16, .inl gr))]) X hW 6 rfl (vp_in_nI (by omega) (by decide)) ef66 rfl dX12_gossips_245 (fun H locs hW => ?_)
                                refine lv_iinc (v := nI (y + 1)) (lv' := [(9, .int (nI (y + 1))), (0, .ref h0), (1, .int (nI v)), (2, .int (nI dn)), (3, .int 6), (4, .int (nI (7 * dn))), (5, .int 0), (6, .int (nI i)), (7, .int (nI (12 * v + i))), (8, .int (G (7 * dn + ea) ||| G (7 * dn + eb)))]) (pc := 246) hx hb dX12_gossips_246 hl (k := 9) rfl ((nI_succ y).symm) (by decide) rfl (fun ls hl => ?_)
                                refine lv_goto (tgt := 183) (pc := 249) hx hb dX12_gossips_249 rfl ?_
                                have hW : WD g A s _ _ [(h0, .inr (12, [.int i0, .ref b1, .int i2, .int i3, .int i4, .int i5, .ref b6, .ref b7, .ref b8, .ref b9, .ref b10, .ref b11, .ref b12, .ref b13, .ref b14, .ref b15, .ref b16, .ref b17, .int i18, .int i19, .int i20, .ref b21, .ref b22, .ref b23, .ref b24, .ref b25, .ref b26, .int i27, .ref b28, .ref b29, .ref b30, .ref b31, .ref b32, .ref b33, .ref b34, .ref b35, .ref b36, .int i37, .int i38, .int i39, .int i40, .int i41, .int i42, .int i43, .int i44, .int i45, .ref b46, .ref b47, .ref b48, .ref b49, .ref b50, .ref b51, .ref b52, .ref b53, .ref b54, .ref b55, .ref b56, .ref b57, .ref b58, .ref b59, .ref b60, .ref b61, .ref b62, .ref b63])), (b6, .inl (g.2.1 1, 11, .inl P)), (b7, .inl (g.2.1 1, 11, .inl Lc)), (b12, .inl (g.2.1 1, 132, .inl La)), (b13, .inl (g.2.1 1, 132, .inl Lb)), (b48, .inl (g.2.1 3, 12, .inl lw)), (b46, .inl (g.2.1 1, 112, .inl f66)), (b47, .inl (g.2.1 1, 16, .inl gr))] := hW.pick [0, 1, 2, 3, 4, 5, 6, 7] rfl rfl
                                exact ih3 (y + 1) f66 (by omega) (by omega) (fun x hx => by
                                    rw [← ef66, nI_clamp (by omega)]
                                    simp only [upd, show ¬ x = 7 * dn + 7 + y by omega, if_false]
                                    exact hG3 x hx) (fun z hz => by
                                    rw [← ef66, nI_clamp (by omega)]
                                    by_cases e9 : z = y
                                    · subst e9; simp only [upd, if_true]; rw [gaft, if_neg (fun q => q.elim (fun r => c60 (congrArg nI r)) (fun r => c63 (congrArg nI r)))]; rfl
                                    · simp only [upd, show ¬ 7 * dn + 7 + z = 7 * dn + 7 + y by omega, if_false]; exact hC z (by omega)) _ _ _ hW (lv_sub hl [1, 2, 3, 4, 5, 6, 7, 8, 9, 0] rfl)
                              · refine lv_iload (pc := 230) hx hb dX12_gossips_230 (lv_at hl 8 rfl) ?_
                                refine lv_goto (tgt := 245) (pc := 232) hx hb dX12_gossips_232 rfl ?_
                                obtain ⟨f67, ef67⟩ : ∃ fz : Nat → Int32, upd G3 (nI (7 * dn + 7 + y)).toNatClampNeg (G (7 * dn + ea) ||| G (7 * dn + eb)) = fz := ⟨_, rfl⟩
                                refine r_iast (ws' := [(h0, .inr (12, [.int i0, .ref b1, .int i2, .int i3, .int i4, .int i5, .ref b6, .ref b7, .ref b8, .ref b9, .ref b10, .ref b11, .ref b12, .ref b13, .ref b14, .ref b15, .ref b16, .ref b17, .int i18, .int i19, .int i20, .ref b21, .ref b22, .ref b23, .ref b24, .ref b25, .ref b26, .int i27, .ref b28, .ref b29, .ref b30, .ref b31, .ref b32, .ref b33, .ref b34, .ref b35, .ref b36, .int i37, .int i38, .int i39, .int i40, .int i41, .int i42, .int i43, .int i44, .int i45, .ref b46, .ref b47, .ref b48, .ref b49, .ref b50, .ref b51, .ref b52, .ref b53, .ref b54, .ref b55, .ref b56, .ref b57, .ref b58, .ref b59, .ref b60, .ref b61, .ref b62, .ref b63])), (b6, .inl (g.2.1 1, 11, .inl P)), (b7, .inl (g.2.1 1, 11, .inl Lc)), (b12, .inl (g.2.1 1, 132, .inl La)), (b13, .inl (g.2.1 1, 132, .inl Lb)), (b48, .inl (g.2.1 3, 12, .inl lw)), (b46, .inl (g.2.1 1, 112, .inl f67)), (b47, .inl (g.2.1 1, 16, .inl gr))]) X hW 6 rfl (vp_in_nI (by omega) (by decide)) ef67 rfl dX12_gossips_245 (fun H locs hW => ?_)
                                refine lv_iinc (v := nI (y + 1)) (lv' := [(9, .int (nI (y + 1))), (0, .ref h0), (1, .int (nI v)), (2, .int (nI dn)), (3, .int 6), (4, .int (nI (7 * dn))), (5, .int 0), (6, .int (nI i)), (7, .int (nI (12 * v + i))), (8, .int (G (7 * dn + ea) ||| G (7 * dn + eb)))]) (pc := 246) hx hb dX12_gossips_246 hl (k := 9) rfl ((nI_succ y).symm) (by decide) rfl (fun ls hl => ?_)
                                refine lv_goto (tgt := 183) (pc := 249) hx hb dX12_gossips_249 rfl ?_
                                have hW : WD g A s _ _ [(h0, .inr (12, [.int i0, .ref b1, .int i2, .int i3, .int i4, .int i5, .ref b6, .ref b7, .ref b8, .ref b9, .ref b10, .ref b11, .ref b12, .ref b13, .ref b14, .ref b15, .ref b16, .ref b17, .int i18, .int i19, .int i20, .ref b21, .ref b22, .ref b23, .ref b24, .ref b25, .ref b26, .int i27, .ref b28, .ref b29, .ref b30, .ref b31, .ref b32, .ref b33, .ref b34, .ref b35, .ref b36, .int i37, .int i38, .int i39, .int i40, .int i41, .int i42, .int i43, .int i44, .int i45, .ref b46, .ref b47, .ref b48, .ref b49, .ref b50, .ref b51, .ref b52, .ref b53, .ref b54, .ref b55, .ref b56, .ref b57, .ref b58, .ref b59, .ref b60, .ref b61, .ref b62, .ref b63])), (b6, .inl (g.2.1 1, 11, .inl P)), (b7, .inl (g.2.1 1, 11, .inl Lc)), (b12, .inl (g.2.1 1, 132, .inl La)), (b13, .inl (g.2.1 1, 132, .inl Lb)), (b48, .inl (g.2.1 3, 12, .inl lw)), (b46, .inl (g.2.1 1, 112, .inl f67)), (b47, .inl (g.2.1 1, 16, .inl gr))] := hW.pick [0, 1, 2, 3, 4, 5, 6, 7] rfl rfl
                                exact ih3 (y + 1) f67 (by omega) (by omega) (fun x hx => by
                                    rw [← ef67, nI_clamp (by omega)]
                                    simp only [upd, show ¬ x = 7 * dn + 7 + y by omega, if_false]
                                    exact hG3 x hx) (fun z hz => by
                                    rw [← ef67, nI_clamp (by omega)]
                                    by_cases e9 : z = y
                                    · subst e9; simp only [upd, if_true]; rw [gaft, if_pos (Or.inr (nI_inj6 (by omega) (by omega) c63))]; rfl
                                    · simp only [upd, show ¬ 7 * dn + 7 + z = 7 * dn + 7 + y by omega, if_false]; exact hC z (by omega)) _ _ _ hW (lv_sub hl [1, 2, 3, 4, 5, 6, 7, 8, 9, 0] rfl)
                      exact loop3 (pp + 1) 0 G2 (by omega) (Nat.zero_le _) hG2 (fun z hz => absurd hz (Nat.not_lt_zero z)) _ _ _ hW (lv_sub hl [3, 4, 5, 6, 7, 8, 9, 2, 1, 0] rfl)
                    · refine lv_goto (tgt := 276) (pc := 177) hx hb dX12_gossips_177 rfl ?_
                      refine lv_iinc (v := nI (i + 1)) (lv' := [(6, .int (nI (i + 1))), (8, .int (G (7 * dn + ea) ||| G (7 * dn + eb))), (7, .int (nI (12 * v + i))), (0, .ref h0), (1, .int (nI v)), (2, .int (nI dn)), (3, .int 6), (4, .int (nI (7 * dn))), (5, .int 0)]) (pc := 276) hx hb dX12_gossips_276 hl (k := 8) rfl ((nI_succ i).symm) (by decide) rfl (fun ls hl => ?_)
                      refine lv_goto (tgt := 74) (pc := 279) hx hb dX12_gossips_279 rfl ?_
                      have hW : WD g A s _ _ [(h0, .inr (12, [.int i0, .ref b1, .int i2, .int i3, .int i4, .int i5, .ref b6, .ref b7, .ref b8, .ref b9, .ref b10, .ref b11, .ref b12, .ref b13, .ref b14, .ref b15, .ref b16, .ref b17, .int i18, .int i19, .int i20, .ref b21, .ref b22, .ref b23, .ref b24, .ref b25, .ref b26, .int i27, .ref b28, .ref b29, .ref b30, .ref b31, .ref b32, .ref b33, .ref b34, .ref b35, .ref b36, .int i37, .int i38, .int i39, .int i40, .int i41, .int i42, .int i43, .int i44, .int i45, .ref b46, .ref b47, .ref b48, .ref b49, .ref b50, .ref b51, .ref b52, .ref b53, .ref b54, .ref b55, .ref b56, .ref b57, .ref b58, .ref b59, .ref b60, .ref b61, .ref b62, .ref b63])), (b6, .inl (g.2.1 1, 11, .inl P)), (b7, .inl (g.2.1 1, 11, .inl Lc)), (b12, .inl (g.2.1 1, 132, .inl La)), (b13, .inl (g.2.1 1, 132, .inl Lb)), (b48, .inl (g.2.1 3, 12, .inl lw)), (b46, .inl (g.2.1 1, 112, .inl G2)), (b47, .inl (g.2.1 1, 16, .inl gr))] := hW.pick [0, 1, 2, 3, 4, 5, 6, 7] rfl rfl
                      exact ih2 (i + 1) G2 gr (by omega) (by omega) (hG2) hgr (gno_s hno (by omega) hea heb eA eB (fun ha9 hb9 hw9 hu9 => absurd ⟨h_eA, c47⟩ hu9)) _ _ _ hW (lv_sub hl [3, 4, 5, 6, 7, 8, 0] rfl)
          exact loop2 (lc + 1) 0 G gr0 (by omega) (Nat.zero_le _) (fun x hx => rfl) hg0 gno_0 _ _ _ hW (lv_sub hl [1, 2, 3, 4, 5, 6, 0] rfl)
      · have hkl : k < pp := ge_f (by omega) (by omega) c3
        refine lv_iload (pc := 23) hx hb dX12_gossips_23 (lv_at hl 5 rfl) ?_
        refine lv_if_eq (tgt := 50) (pc := 25) hx hb dX12_gossips_25 rfl (fun c68 => ?_) (fun c68 => ?_)
        · refine lv_iconst (v := 0) (pc := 50) hx hb dX12_gossips_50 (by decide) ?_
          refine lv_istore (lv' := [(5, .int 0), (0, .ref h0), (1, .int (nI v)), (2, .int (nI dn)), (3, .int 6), (4, .int (nI (7 * dn))), (6, .int (nI k))]) (pc := 51) hx hb dX12_gossips_51 hl (by decide) rfl (fun ls hl => ?_)
          refine lv_iinc (v := nI (k + 1)) (lv' := [(6, .int (nI (k + 1))), (5, .int 0), (0, .ref h0), (1, .int (nI v)), (2, .int (nI dn)), (3, .int 6), (4, .int (nI (7 * dn)))]) (pc := 53) hx hb dX12_gossips_53 hl (k := 6) rfl ((nI_succ k).symm) (by decide) rfl (fun ls hl => ?_)
          refine lv_goto (tgt := 12) (pc := 56) hx hb dX12_gossips_56 rfl ?_
          have hW : WD g A s _ _ [(h0, .inr (12, [.int i0, .ref b1, .int i2, .int i3, .int i4, .int i5, .ref b6, .ref b7, .ref b8, .ref b9, .ref b10, .ref b11, .ref b12, .ref b13, .ref b14, .ref b15, .ref b16, .ref b17, .int i18, .int i19, .int i20, .ref b21, .ref b22, .ref b23, .ref b24, .ref b25, .ref b26, .int i27, .ref b28, .ref b29, .ref b30, .ref b31, .ref b32, .ref b33, .ref b34, .ref b35, .ref b36, .int i37, .int i38, .int i39, .int i40, .int i41, .int i42, .int i43, .int i44, .int i45, .ref b46, .ref b47, .ref b48, .ref b49, .ref b50, .ref b51, .ref b52, .ref b53, .ref b54, .ref b55, .ref b56, .ref b57, .ref b58, .ref b59, .ref b60, .ref b61, .ref b62, .ref b63])), (b6, .inl (g.2.1 1, 11, .inl P)), (b7, .inl (g.2.1 1, 11, .inl Lc)), (b12, .inl (g.2.1 1, 132, .inl La)), (b13, .inl (g.2.1 1, 132, .inl Lb)), (b48, .inl (g.2.1 3, 12, .inl lw)), (b46, .inl (g.2.1 1, 112, .inl G)), (b47, .inl (g.2.1 1, 16, .inl gr0))] := hW.pick [0, 1, 2, 3, 4, 5, 6, 7] rfl rfl
          exact ih1 (k + 1) 0 (by omega) (by omega) (Or.inr ⟨rfl, (hal.resolve_left (fun r => absurd (r.1.symm.trans c68) (by decide))).2⟩) _ _ _ hW (lv_sub hl [2, 3, 4, 5, 6, 1, 0] rfl)
        · have hal9 : ¬ al = 0 := c68
          have hal1 : ¬ al = 0 → ∀ o : Nat, o < k → (rwt G dn) o = evy (nI pp) := fun q => (hal.resolve_right (fun r => q r.1)).2
          refine lv_aload_n (pc := 28) hx hb dX12_gossips_28 rfl (lv_at hl 0 rfl) ?_
          refine r_get X hW 0 ciX12 46 rfl (by decide) m_1273 rfl rfl dX12_gossips_29 ?_
          refine lv_iload (pc := 32) hx hb dX12_gossips_32 (lv_at hl 4 rfl) ?_
          refine lv_iload (pc := 34) hx hb dX12_gossips_34 (lv_at hl 6 rfl) ?_
          refine lv_iadd (pc := 36) hx hb dX12_gossips_36 ?_
          refine lv_topi (fun uv69 euv69 => ?_)
          obtain rfl : uv69 = nI (7 * dn + k) := euv69.trans (nI_add _ _)
          refine r_iald X hW 6 rfl (vp_in_nI (by omega) (by decide)) dX12_gossips_37 ?_
          refine lv_topi (fun uv70 euv70 => ?_)
          obtain rfl : uv70 = G (7 * dn + k) := euv70.trans (by rw [nI_clamp (by omega)])
          refine lv_aload_n (pc := 38) hx hb dX12_gossips_38 rfl (lv_at hl 0 rfl) ?_
          refine lv_iload_n (pc := 39) hx hb dX12_gossips_39 rfl (lv_at hl 1 rfl) ?_
          refine c_Vi (pc := 40) (As := [.int (nI v)]) (rest := [.int (G (7 * dn + k))]) (wr := [(b7, .inl (g.2.1 1, 11, .inl Lc)), (b12, .inl (g.2.1 1, 132, .inl La)), (b13, .inl (g.2.1 1, 132, .inl Lb)), (b48, .inl (g.2.1 3, 12, .inl lw)), (b46, .inl (g.2.1 1, 112, .inl G)), (b47, .inl (g.2.1 1, 16, .inl gr0))]) X hW 0 ciX12 rfl (C_X12_everybodyG l g h0 b1 b6 b7 b8 b9 b10 b11 b12 b13 b14 b15 b16 b17 b21 b22 b23 b24 b25 b26 b28 b29 b30 b31 b32 b33 b34 b35 b36 b46 b47 b48 b49 b50 b51 b52 b53 b54 b55 b56 b57 b58 b59 b60 b61 b62 b63 i0 i2 i3 i4 i5 i18 i19 i20 i27 i37 i38 i39 i40 i41 i42 i43 i44 i45 P v (by omega)) vX12_274 [0, 1] [2, 3, 4, 5, 6, 7] rfl rfl rfl rfl rfl rfl hl.1 rfl (Nat.le_of_ble_eq_true rfl) ⟨Nat.le_of_ble_eq_true rfl, Nat.le_of_ble_eq_true rfl⟩ ⟨Nat.le_of_ble_eq_true rfl, Nat.le_of_ble_eq_true rfl⟩ dX12_gossips_40 (fun r71 u9 H locs hq hW => ?_)
          obtain ⟨rfl, rfl⟩ := hq
          have hW : WD g A s _ _ [(b7, .inl (g.2.1 1, 11, .inl Lc)), (b12, .inl (g.2.1 1, 132, .inl La)), (b13, .inl (g.2.1 1, 132, .inl Lb)), (b48, .inl (g.2.1 3, 12, .inl lw)), (b46, .inl (g.2.1 1, 112, .inl G)), (b47, .inl (g.2.1 1, 16, .inl gr0)), (h0, .inr (12, [.int i0, .ref b1, .int i2, .int i3, .int i4, .int i5, .ref b6, .ref b7, .ref b8, .ref b9, .ref b10, .ref b11, .ref b12, .ref b13, .ref b14, .ref b15, .ref b16, .ref b17, .int i18, .int i19, .int i20, .ref b21, .ref b22, .ref b23, .ref b24, .ref b25, .ref b26, .int i27, .ref b28, .ref b29, .ref b30, .ref b31, .ref b32, .ref b33, .ref b34, .ref b35, .ref b36, .int i37, .int i38, .int i39, .int i40, .int i41, .int i42, .int i43, .int i44, .int i45, .ref b46, .ref b47, .ref b48, .ref b49, .ref b50, .ref b51, .ref b52, .ref b53, .ref b54, .ref b55, .ref b56, .ref b57, .ref b58, .ref b59, .ref b60, .ref b61, .ref b62, .ref b63])), (b6, .inl (g.2.1 1, 11, .inl P))] := hW
          refine lv_icmp_ne (tgt := 50) (pc := 43) hx hb dX12_gossips_43 rfl (fun c72 => ?_) (fun c72 => ?_)
          · refine lv_iconst (v := 0) (pc := 50) hx hb dX12_gossips_50 (by decide) ?_
            refine lv_istore (lv' := [(5, .int 0), (0, .ref h0), (1, .int (nI v)), (2, .int (nI dn)), (3, .int 6), (4, .int (nI (7 * dn))), (6, .int (nI k))]) (pc := 51) hx hb dX12_gossips_51 hl (by decide) rfl (fun ls hl => ?_)
            refine lv_iinc (v := nI (k + 1)) (lv' := [(6, .int (nI (k + 1))), (5, .int 0), (0, .ref h0), (1, .int (nI v)), (2, .int (nI dn)), (3, .int 6), (4, .int (nI (7 * dn)))]) (pc := 53) hx hb dX12_gossips_53 hl (k := 6) rfl ((nI_succ k).symm) (by decide) rfl (fun ls hl => ?_)
            refine lv_goto (tgt := 12) (pc := 56) hx hb dX12_gossips_56 rfl ?_
            have hW : WD g A s _ _ [(h0, .inr (12, [.int i0, .ref b1, .int i2, .int i3, .int i4, .int i5, .ref b6, .ref b7, .ref b8, .ref b9, .ref b10, .ref b11, .ref b12, .ref b13, .ref b14, .ref b15, .ref b16, .ref b17, .int i18, .int i19, .int i20, .ref b21, .ref b22, .ref b23, .ref b24, .ref b25, .ref b26, .int i27, .ref b28, .ref b29, .ref b30, .ref b31, .ref b32, .ref b33, .ref b34, .ref b35, .ref b36, .int i37, .int i38, .int i39, .int i40, .int i41, .int i42, .int i43, .int i44, .int i45, .ref b46, .ref b47, .ref b48, .ref b49, .ref b50, .ref b51, .ref b52, .ref b53, .ref b54, .ref b55, .ref b56, .ref b57, .ref b58, .ref b59, .ref b60, .ref b61, .ref b62, .ref b63])), (b6, .inl (g.2.1 1, 11, .inl P)), (b7, .inl (g.2.1 1, 11, .inl Lc)), (b12, .inl (g.2.1 1, 132, .inl La)), (b13, .inl (g.2.1 1, 132, .inl Lb)), (b48, .inl (g.2.1 3, 12, .inl lw)), (b46, .inl (g.2.1 1, 112, .inl G)), (b47, .inl (g.2.1 1, 16, .inl gr0))] := hW.pick [6, 7, 0, 1, 2, 3, 4, 5] rfl rfl
            exact ih1 (k + 1) 0 (by omega) (by omega) (Or.inr ⟨rfl, (fun q => c72 (by have := q k hkl; rw [hP]; exact this))⟩) _ _ _ hW (lv_sub hl [2, 3, 4, 5, 6, 1, 0] rfl)
          · refine lv_iconst (v := 1) (pc := 46) hx hb dX12_gossips_46 (by decide) ?_
            refine lv_goto (tgt := 51) (pc := 47) hx hb dX12_gossips_47 rfl ?_
            refine lv_istore (lv' := [(5, .int 1), (0, .ref h0), (1, .int (nI v)), (2, .int (nI dn)), (3, .int 6), (4, .int (nI (7 * dn))), (6, .int (nI k))]) (pc := 51) hx hb dX12_gossips_51 hl (by decide) rfl (fun ls hl => ?_)
            refine lv_iinc (v := nI (k + 1)) (lv' := [(6, .int (nI (k + 1))), (5, .int 1), (0, .ref h0), (1, .int (nI v)), (2, .int (nI dn)), (3, .int 6), (4, .int (nI (7 * dn)))]) (pc := 53) hx hb dX12_gossips_53 hl (k := 6) rfl ((nI_succ k).symm) (by decide) rfl (fun ls hl => ?_)
            refine lv_goto (tgt := 12) (pc := 56) hx hb dX12_gossips_56 rfl ?_
            have hW : WD g A s _ _ [(h0, .inr (12, [.int i0, .ref b1, .int i2, .int i3, .int i4, .int i5, .ref b6, .ref b7, .ref b8, .ref b9, .ref b10, .ref b11, .ref b12, .ref b13, .ref b14, .ref b15, .ref b16, .ref b17, .int i18, .int i19, .int i20, .ref b21, .ref b22, .ref b23, .ref b24, .ref b25, .ref b26, .int i27, .ref b28, .ref b29, .ref b30, .ref b31, .ref b32, .ref b33, .ref b34, .ref b35, .ref b36, .int i37, .int i38, .int i39, .int i40, .int i41, .int i42, .int i43, .int i44, .int i45, .ref b46, .ref b47, .ref b48, .ref b49, .ref b50, .ref b51, .ref b52, .ref b53, .ref b54, .ref b55, .ref b56, .ref b57, .ref b58, .ref b59, .ref b60, .ref b61, .ref b62, .ref b63])), (b6, .inl (g.2.1 1, 11, .inl P)), (b7, .inl (g.2.1 1, 11, .inl Lc)), (b12, .inl (g.2.1 1, 132, .inl La)), (b13, .inl (g.2.1 1, 132, .inl Lb)), (b48, .inl (g.2.1 3, 12, .inl lw)), (b46, .inl (g.2.1 1, 112, .inl G)), (b47, .inl (g.2.1 1, 16, .inl gr0))] := hW.pick [6, 7, 0, 1, 2, 3, 4, 5] rfl rfl
            exact ih1 (k + 1) 1 (by omega) (by omega) (Or.inl ⟨rfl, gall_s (p := pp) (hal1 hal9) (by show G (7 * dn + k) = _; rw [c72, hP])⟩) _ _ _ hW (lv_sub hl [2, 3, 4, 5, 6, 1, 0] rfl)
  exact loop1 (pp + 1) 0 1 (by omega) (Nat.zero_le _) (Or.inl ⟨rfl, fun o ho => absurd ho (Nat.not_lt_zero o)⟩) _ _ _ hW (lv_sub hl [3, 4, 5, 6, 2, 1, 0] rfl)

set_option maxHeartbeats 40000000 in
set_option maxRecDepth 100000 in
theorem C_X12_gossips_7 (l : Launch) (g : GG) (h0 b1 b6 b7 b8 b9 b10 b11 b12 b13 b14 b15 b16 b17 b21 b22 b23 b24 b25 b26 b28 b29 b30 b31 b32 b33 b34 b35 b36 b46 b47 b48 b49 b50 b51 b52 b53 b54 b55 b56 b57 b58 b59 b60 b61 b62 b63 : Nat) (i0 i2 i3 i4 i5 i18 i19 i20 i27 i37 i38 i39 i40 i41 i42 i43 i44 i45 : Int32) (P Lc La Lb lw G gr0 : Nat → Int32) (v lc pp dn : Nat) (hv : v ≤ 10) (hlc : lc ≤ 12) (hpp : pp ≤ 7) (hP : P v = nI pp) (hLc : Lc v = nI lc) (hLA : in6 La) (hLB : in6 Lb) (hg0 : gb16 gr0) (hdn : dn + 7 ≤ 15) : MetI l g yX12_gossips cX12_gossips 10 (some .boolean) 8 0 0 [.ref h0, .int (nI v), .int (nI dn), .int 7] [(h0, .inr (12, [.int i0, .ref b1, .int i2, .int i3, .int i4, .int i5, .ref b6, .ref b7, .ref b8, .ref b9, .ref b10, .ref b11, .ref b12, .ref b13, .ref b14, .ref b15, .ref b16, .ref b17, .int i18, .int i19, .int i20, .ref b21, .ref b22, .ref b23, .ref b24, .ref b25, .ref b26, .int i27, .ref b28, .ref b29, .ref b30, .ref b31, .ref b32, .ref b33, .ref b34, .ref b35, .ref b36, .int i37, .int i38, .int i39, .int i40, .int i41, .int i42, .int i43, .int i44, .int i45, .ref b46, .ref b47, .ref b48, .ref b49, .ref b50, .ref b51, .ref b52, .ref b53, .ref b54, .ref b55, .ref b56, .ref b57, .ref b58, .ref b59, .ref b60, .ref b61, .ref b62, .ref b63])), (b6, .inl (g.2.1 1, 11, .inl P)), (b7, .inl (g.2.1 1, 11, .inl Lc)), (b12, .inl (g.2.1 1, 132, .inl La)), (b13, .inl (g.2.1 1, 132, .inl Lb)), (b48, .inl (g.2.1 3, 12, .inl lw)), (b46, .inl (g.2.1 1, 112, .inl G)), (b47, .inl (g.2.1 1, 16, .inl gr0))] (fun r u => ∃ G' gr' : Nat → Int32, (r = 0 ∨ r = 1) ∧ (gok (gV La Lb lw v lc) pp (evy (nI pp)) 7 (rwt G dn) → r = 1) ∧ (∀ x : Nat, x < 7 * (dn + 1) → G' x = G x) ∧ gb16 gr' ∧ u = [(h0, .inr (12, [.int i0, .ref b1, .int i2, .int i3, .int i4, .int i5, .ref b6, .ref b7, .ref b8, .ref b9, .ref b10, .ref b11, .ref b12, .ref b13, .ref b14, .ref b15, .ref b16, .ref b17, .int i18, .int i19, .int i20, .ref b21, .ref b22, .ref b23, .ref b24, .ref b25, .ref b26, .int i27, .ref b28, .ref b29, .ref b30, .ref b31, .ref b32, .ref b33, .ref b34, .ref b35, .ref b36, .int i37, .int i38, .int i39, .int i40, .int i41, .int i42, .int i43, .int i44, .int i45, .ref b46, .ref b47, .ref b48, .ref b49, .ref b50, .ref b51, .ref b52, .ref b53, .ref b54, .ref b55, .ref b56, .ref b57, .ref b58, .ref b59, .ref b60, .ref b61, .ref b62, .ref b63])), (b6, .inl (g.2.1 1, 11, .inl P)), (b7, .inl (g.2.1 1, 11, .inl Lc)), (b12, .inl (g.2.1 1, 132, .inl La)), (b13, .inl (g.2.1 1, 132, .inl Lb)), (b48, .inl (g.2.1 3, 12, .inl lw)), (b46, .inl (g.2.1 1, 112, .inl G')), (b47, .inl (g.2.1 1, 16, .inl gr'))]) := by
  refine MetI.of (own := RX12) rfl (by decide) (Nat.le_of_ble_eq_true rfl) ?_
  intro p e s m below meth c A ls args Q hQ X hr hin hW hl
  have hx := X.1
  have hb := X.2.1
  have hl : lv_has ls 10 [(0, .ref h0), (1, .int (nI v)), (2, .int (nI dn)), (3, .int 7)] := hl
  refine lv_bipush (v := 7) (pc := 0) hx hb dX12_gossips_0 (by decide) ?_
  refine lv_iload_n (pc := 2) hx hb dX12_gossips_2 rfl (lv_at hl 2 rfl) ?_
  refine lv_imul (pc := 3) hx hb dX12_gossips_3 ?_
  refine lv_topi (fun uv1 euv1 => ?_)
  obtain rfl : uv1 = nI (7 * dn) := euv1.trans (pk_mul _ _)
  refine lv_istore (lv' := [(4, .int (nI (7 * dn))), (0, .ref h0), (1, .int (nI v)), (2, .int (nI dn)), (3, .int 7)]) (pc := 4) hx hb dX12_gossips_4 hl (by decide) rfl (fun ls hl => ?_)
  refine lv_iconst (v := 1) (pc := 6) hx hb dX12_gossips_6 (by decide) ?_
  refine lv_istore (lv' := [(5, .int 1), (4, .int (nI (7 * dn))), (0, .ref h0), (1, .int (nI v)), (2, .int (nI dn)), (3, .int 7)]) (pc := 7) hx hb dX12_gossips_7 hl (by decide) rfl (fun ls hl => ?_)
  refine lv_iconst (v := 0) (pc := 9) hx hb dX12_gossips_9 (by decide) ?_
  refine lv_istore (lv' := [(6, .int 0), (5, .int 1), (4, .int (nI (7 * dn))), (0, .ref h0), (1, .int (nI v)), (2, .int (nI dn)), (3, .int 7)]) (pc := 10) hx hb dX12_gossips_10 hl (by decide) rfl (fun ls hl => ?_)
  have loop1 : ∀ (fu : Nat) (k : Nat) (al : Int32), (pp < fu + k) → (k ≤ pp) → ((al = 1 ∧ ∀ o : Nat, o < k → (rwt G dn) o = evy (nI pp)) ∨ (al = 0 ∧ ¬ gall pp (evy (nI pp)) (rwt G dn))) → ∀ (H : Heap) (locs : List Loc) (ls : Array Slot), WD g A s H locs [(h0, .inr (12, [.int i0, .ref b1, .int i2, .int i3, .int i4, .int i5, .ref b6, .ref b7, .ref b8, .ref b9, .ref b10, .ref b11, .ref b12, .ref b13, .ref b14, .ref b15, .ref b16, .ref b17, .int i18, .int i19, .int i20, .ref b21, .ref b22, .ref b23, .ref b24, .ref b25, .ref b26, .int i27, .ref b28, .ref b29, .ref b30, .ref b31, .ref b32, .ref b33, .ref b34, .ref b35, .ref b36, .int i37, .int i38, .int i39, .int i40, .int i41, .int i42, .int i43, .int i44, .int i45, .ref b46, .ref b47, .ref b48, .ref b49, .ref b50, .ref b51, .ref b52, .ref b53, .ref b54, .ref b55, .ref b56, .ref b57, .ref b58, .ref b59, .ref b60, .ref b61, .ref b62, .ref b63])), (b6, .inl (g.2.1 1, 11, .inl P)), (b7, .inl (g.2.1 1, 11, .inl Lc)), (b12, .inl (g.2.1 1, 132, .inl La)), (b13, .inl (g.2.1 1, 132, .inl Lb)), (b48, .inl (g.2.1 3, 12, .inl lw)), (b46, .inl (g.2.1 1, 112, .inl G)), (b47, .inl (g.2.1 1, 16, .inl gr0))] → lv_has ls 10 [(0, .ref h0), (1, .int (nI v)), (2, .int (nI dn)), (3, .int 7), (4, .int (nI (7 * dn))), (5, .int al), (6, .int (nI k))] → W p l e (RM 8 0 0) s m args below meth c H locs 0 0 Q (F0 m 12 ls []) := by
    intro fu
    induction fu with
    | zero =>
      intro k al hm hk hal
      exact absurd hm (by omega)
    | succ fu ih1 =>
      intro k al hm hk hal H locs ls hW hl
      refine lv_iload (pc := 12) hx hb dX12_gossips_12 (lv_at hl 6 rfl) ?_
      refine lv_aload_n (pc := 14) hx hb dX12_gossips_14 rfl (lv_at hl 0 rfl) ?_
      refine r_get X hW 0 ciX12 6 rfl (by decide) m_1237 rfl rfl dX12_gossips_15 ?_
      refine lv_iload_n (pc := 18) hx hb dX12_gossips_18 rfl (lv_at hl 1 rfl) ?_
      refine r_iald X hW 1 rfl (vp_in_nI (by omega) (by decide)) dX12_gossips_19 ?_
      refine lv_topi (fun uv2 euv2 => ?_)
      obtain rfl : uv2 = nI pp := euv2.trans (by rw [nI_clamp (by omega)]; exact hP)
      refine lv_icmp_ge (tgt := 59) (pc := 20) hx hb dX12_gossips_20 rfl (fun c3 => ?_) (fun c3 => ?_)
      · have hkp : k = pp := Nat.le_antisymm hk (ge_t (by omega) (by omega) c3)
        rw [hkp] at hal
        rcases hal with ⟨ha1, hal⟩ | ⟨ha1, hal⟩
        · subst ha1
          refine lv_iload (pc := 59) hx hb dX12_gossips_59 (lv_at hl 5 rfl) ?_
          refine lv_if_ne (tgt := 68) (pc := 61) hx hb dX12_gossips_61 rfl (fun c4 => ?_) (fun c4 => absurd c4 (by decide))
          refine lv_iload (pc := 68) hx hb dX12_gossips_68 (lv_at hl 5 rfl) ?_
          exact e_z X hQ hr hW (u := [(h0, .inr (12, [.int i0, .ref b1, .int i2, .int i3, .int i4, .int i5, .ref b6, .ref b7, .ref b8, .ref b9, .ref b10, .ref b11, .ref b12, .ref b13, .ref b14, .ref b15, .ref b16, .ref b17, .int i18, .int i19, .int i20, .ref b21, .ref b22, .ref b23, .ref b24, .ref b25, .ref b26, .int i27, .ref b28, .ref b29, .ref b30, .ref b31, .ref b32, .ref b33, .ref b34, .ref b35, .ref b36, .int i37, .int i38, .int i39, .int i40, .int i41, .int i42, .int i43, .int i44, .int i45, .ref b46, .ref b47, .ref b48, .ref b49, .ref b50, .ref b51, .ref b52, .ref b53, .ref b54, .ref b55, .ref b56, .ref b57, .ref b58, .ref b59, .ref b60, .ref b61, .ref b62, .ref b63])), (b6, .inl (g.2.1 1, 11, .inl P)), (b7, .inl (g.2.1 1, 11, .inl Lc)), (b12, .inl (g.2.1 1, 132, .inl La)), (b13, .inl (g.2.1 1, 132, .inl Lb)), (b48, .inl (g.2.1 3, 12, .inl lw)), (b46, .inl (g.2.1 1, 112, .inl G)), (b47, .inl (g.2.1 1, 16, .inl gr0))]) rfl [0, 1, 2, 3, 4, 5, 6, 7] rfl rfl (⟨_, _, Or.inr rfl, fun _ => rfl, fun x hx => rfl, hg0, rfl⟩) ⟨Nat.le_of_ble_eq_true rfl, Nat.le_of_ble_eq_true rfl⟩ dX12_gossips_70
        · subst ha1
          refine lv_iload (pc := 59) hx hb dX12_gossips_59 (lv_at hl 5 rfl) ?_
          refine lv_if_ne (tgt := 68) (pc := 61) hx hb dX12_gossips_61 rfl (fun c5 => absurd (by decide) c5) (fun c5 => ?_)
          refine lv_iload_n (pc := 64) hx hb dX12_gossips_64 rfl (lv_at hl 3 rfl) ?_
          refine lv_if_ne (tgt := 71) (pc := 65) hx hb dX12_gossips_65 rfl (fun c6 => ?_) (fun c6 => absurd c6 (by decide))
          refine lv_iconst (v := 0) (pc := 71) hx hb dX12_gossips_71 (by decide) ?_
          refine lv_istore (lv' := [(6, .int 0), (0, .ref h0), (1, .int (nI v)), (2, .int (nI dn)), (3, .int 7), (4, .int (nI (7 * dn))), (5, .int 0)]) (pc := 72) hx hb dX12_gossips_72 hl (by decide) rfl (fun ls hl => ?_)
          have hW : WD g A s _ _ [(h0, .inr (12, [.int i0, .ref b1, .int i2, .int i3, .int i4, .int i5, .ref b6, .ref b7, .ref b8, .ref b9, .ref b10, .ref b11, .ref b12, .ref b13, .ref b14, .ref b15, .ref b16, .ref b17, .int i18, .int i19, .int i20, .ref b21, .ref b22, .ref b23, .ref b24, .ref b25, .ref b26, .int i27, .ref b28, .ref b29, .ref b30, .ref b31, .ref b32, .ref b33, .ref b34, .ref b35, .ref b36, .int i37, .int i38, .int i39, .int i40, .int i41, .int i42, .int i43, .int i44, .int i45, .ref b46, .ref b47, .ref b48, .ref b49, .ref b50, .ref b51, .ref b52, .ref b53, .ref b54, .ref b55, .ref b56, .ref b57, .ref b58, .ref b59, .ref b60, .ref b61, .ref b62, .ref b63])), (b6, .inl (g.2.1 1, 11, .inl P)), (b7, .inl (g.2.1 1, 11, .inl Lc)), (b12, .inl (g.2.1 1, 132, .inl La)), (b13, .inl (g.2.1 1, 132, .inl Lb)), (b48, .inl (g.2.1 3, 12, .inl lw)), (b46, .inl (g.2.1 1, 112, .inl G)), (b47, .inl (g.2.1 1, 16, .inl gr0))] := hW.pick [0, 1, 2, 3, 4, 5, 6, 7] rfl rfl
          have loop2 : ∀ (fv : Nat) (i : Nat) (G2 : Nat → Int32) (gr : Nat → Int32), (lc < fv + i) → (i ≤ lc) → (∀ x : Nat, x < 7 * (dn + 1) → G2 x = G x) → (gb16 gr) → (gno La Lb lw v lc pp (evy (nI pp)) 6 (rwt G dn) i) → ∀ (H : Heap) (locs : List Loc) (ls : Array Slot), WD g A s H locs [(h0, .inr (12, [.int i0, .ref b1, .int i2, .int i3, .int i4, .int i5, .ref b6, .ref b7, .ref b8, .ref b9, .ref b10, .ref b11, .ref b12, .ref b13, .ref b14, .ref b15, .ref b16, .ref b17, .int i18, .int i19, .int i20, .ref b21, .ref b22, .ref b23, .ref b24, .ref b25, .ref b26, .int i27, .ref b28, .ref b29, .ref b30, .ref b31, .ref b32, .ref b33, .ref b34, .ref b35, .ref b36, .int i37, .int i38, .int i39, .int i40, .int i41, .int i42, .int i43, .int i44, .int i45, .ref b46, .ref b47, .ref b48, .ref b49, .ref b50, .ref b51, .ref b52, .ref b53, .ref b54, .ref b55, .ref b56, .ref b57, .ref b58, .ref b59, .ref b60, .ref b61, .ref b62, .ref b63])), (b6, .inl (g.2.1 1, 11, .inl P)), (b7, .inl (g.2.1 1, 11, .inl Lc)), (b12, .inl (g.2.1 1, 132, .inl La)), (b13, .inl (g.2.1 1, 132, .inl Lb)), (b48, .inl (g.2.1 3, 12, .inl lw)), (b46, .inl (g.2.1 1, 112, .inl G2)), (b47, .inl (g.2.1 1, 16, .inl gr))] → lv_has ls 10 [(0, .ref h0), (1, .int (nI v)), (2, .int (nI dn)), (3, .int 7), (4, .int (nI (7 * dn))), (5, .int 0), (6, .int (nI i))] → W p l e (RM 8 0 0) s m args below meth c H locs 0 0 Q (F0 m 74 ls []) := by
            intro fv
            induction fv with
            | zero =>
              intro i G2 gr hm2 hi hG2 hgr hno
              exact absurd hm2 (by omega)
            | succ fv ih2 =>
              intro i G2 gr hm2 hi hG2 hgr hno H locs ls hW hl
              refine lv_iload (pc := 74) hx hb dX12_gossips_74 (lv_at hl 6 rfl) ?_
              refine lv_aload_n (pc := 76) hx hb dX12_gossips_76 rfl (lv_at hl 0 rfl) ?_
              refine r_get X hW 0 ciX12 7 rfl (by decide) m_1238 rfl rfl dX12_gossips_77 ?_
              refine lv_iload_n (pc := 80) hx hb dX12_gossips_80 rfl (lv_at hl 1 rfl) ?_
              refine r_iald X hW 2 rfl (vp_in_nI (by omega) (by decide)) dX12_gossips_81 ?_
              refine lv_topi (fun uv7 euv7 => ?_)
              obtain rfl : uv7 = nI lc := euv7.trans (by rw [nI_clamp (by omega)]; exact hLc)
              refine lv_icmp_ge (tgt := 282) (pc := 82) hx hb dX12_gossips_82 rfl (fun c8 => ?_) (fun c8 => ?_)
              · have hie : i = lc := Nat.le_antisymm hi (ge_t (by omega) (by omega) c8)
                refine lv_iconst (v := 0) (pc := 282) hx hb dX12_gossips_282 (by decide) ?_
                exact e_z X hQ hr hW (u := [(h0, .inr (12, [.int i0, .ref b1, .int i2, .int i3, .int i4, .int i5, .ref b6, .ref b7, .ref b8, .ref b9, .ref b10, .ref b11, .ref b12, .ref b13, .ref b14, .ref b15, .ref b16, .ref b17, .int i18, .int i19, .int i20, .ref b21, .ref b22, .ref b23, .ref b24, .ref b25, .ref b26, .int i27, .ref b28, .ref b29, .ref b30, .ref b31, .ref b32, .ref b33, .ref b34, .ref b35, .ref b36, .int i37, .int i38, .int i39, .int i40, .int i41, .int i42, .int i43, .int i44, .int i45, .ref b46, .ref b47, .ref b48, .ref b49, .ref b50, .ref b51, .ref b52, .ref b53, .ref b54, .ref b55, .ref b56, .ref b57, .ref b58, .ref b59, .ref b60, .ref b61, .ref b62, .ref b63])), (b6, .inl (g.2.1 1, 11, .inl P)), (b7, .inl (g.2.1 1, 11, .inl Lc)), (b12, .inl (g.2.1 1, 132, .inl La)), (b13, .inl (g.2.1 1, 132, .inl Lb)), (b48, .inl (g.2.1 3, 12, .inl lw)), (b46, .inl (g.2.1 1, 112, .inl G2)), (b47, .inl (g.2.1 1, 16, .inl gr))]) rfl [0, 1, 2, 3, 4, 5, 6, 7] rfl rfl (⟨_, _, Or.inl rfl, fun q => absurd q (gno_end hno hie hal), hG2, hgr, rfl⟩) ⟨Nat.le_of_ble_eq_true rfl, Nat.le_of_ble_eq_true rfl⟩ dX12_gossips_283
              · have hil : i < lc := ge_f (by omega) (by omega) c8
                obtain ⟨ea, hea, eA⟩ := hLA (12 * v + i) (by omega)
                obtain ⟨eb, heb, eB⟩ := hLB (12 * v + i) (by omega)
                refine lv_bipush (v := 12) (pc := 85) hx hb dX12_gossips_85 (by decide) ?_
                refine lv_iload_n (pc := 87) hx hb dX12_gossips_87 rfl (lv_at hl 1 rfl) ?_
                refine lv_imul (pc := 88) hx hb dX12_gossips_88 ?_
                refine lv_topi (fun uv9 euv9 => ?_)
                obtain rfl : uv9 = nI (12 * v) := euv9.trans (pk_mul _ _)
                refine lv_iload (pc := 89) hx hb dX12_gossips_89 (lv_at hl 6 rfl) ?_
                refine lv_iadd (pc := 91) hx hb dX12_gossips_91 ?_
                refine lv_topi (fun uv10 euv10 => ?_)
                obtain rfl : uv10 = nI (12 * v + i) := euv10.trans (nI_add _ _)
                refine lv_istore (lv' := [(7, .int (nI (12 * v + i))), (0, .ref h0), (1, .int (nI v)), (2, .int (nI dn)), (3, .int 7), (4, .int (nI (7 * dn))), (5, .int 0), (6, .int (nI i))]) (pc := 92) hx hb dX12_gossips_92 hl (by decide) rfl (fun ls hl => ?_)
                refine lv_aload_n (pc := 94) hx hb dX12_gossips_94 rfl (lv_at hl 1 rfl) ?_
                refine r_get X hW 0 ciX12 46 rfl (by decide) m_1273 rfl rfl dX12_gossips_95 ?_
                refine lv_iload (pc := 98) hx hb dX12_gossips_98 (lv_at hl 5 rfl) ?_
                refine lv_aload_n (pc := 100) hx hb dX12_gossips_100 rfl (lv_at hl 1 rfl) ?_
                refine r_get X hW 0 ciX12 12 rfl (by decide) m_1243 rfl rfl dX12_gossips_101 ?_
                refine lv_iload (pc := 104) hx hb dX12_gossips_104 (lv_at hl 0 rfl) ?_
                refine r_iald X hW 3 rfl (vp_in_nI (by omega) (by decide)) dX12_gossips_106 ?_
                refine lv_topi (fun uv11 euv11 => ?_)
                obtain rfl : uv11 = nI ea := euv11.trans (by rw [nI_clamp (by omega)]; exact eA)
                refine lv_iadd (pc := 107) hx hb dX12_gossips_107 ?_
                refine lv_topi (fun uv12 euv12 => ?_)
                obtain rfl : uv12 = nI (7 * dn + ea) := euv12.trans (nI_add _ _)
                refine r_iald X hW 6 rfl (vp_in_nI (by omega) (by decide)) dX12_gossips_108 ?_
                refine lv_topi (fun uv13 euv13 => ?_)
                obtain rfl : uv13 = G (7 * dn + ea) := euv13.trans (by rw [nI_clamp (by omega)]; exact hG2 _ (by omega))
                refine lv_aload_n (pc := 109) hx hb dX12_gossips_109 rfl (lv_at hl 1 rfl) ?_
                refine r_get X hW 0 ciX12 46 rfl (by decide) m_1273 rfl rfl dX12_gossips_110 ?_
                refine lv_iload (pc := 113) hx hb dX12_gossips_113 (lv_at hl 5 rfl) ?_
                refine lv_aload_n (pc := 115) hx hb dX12_gossips_115 rfl (lv_at hl 1 rfl) ?_
                refine r_get X hW 0 ciX12 13 rfl (by decide) m_1244 rfl rfl dX12_gossips_116 ?_
                refine lv_iload (pc := 119) hx hb dX12_gossips_119 (lv_at hl 0 rfl) ?_
                refine r_iald X hW 4 rfl (vp_in_nI (by omega) (by decide)) dX12_gossips_121 ?_
                refine lv_topi (fun uv14 euv14 => ?_)
                obtain rfl : uv14 = nI eb := euv14.trans (by rw [nI_clamp (by omega)]; exact eB)
                refine lv_iadd (pc := 122) hx hb dX12_gossips_122 ?_
                refine lv_topi (fun uv15 euv15 => ?_)
                obtain rfl : uv15 = nI (7 * dn + eb) := euv15.trans (nI_add _ _)
                refine r_iald X hW 6 rfl (vp_in_nI (by omega) (by decide)) dX12_gossips_123 ?_
                refine lv_topi (fun uv16 euv16 => ?_)
                obtain rfl : uv16 = G (7 * dn + eb) := euv16.trans (by rw [nI_clamp (by omega)]; exact hG2 _ (by omega))
                refine lv_ior (pc := 124) hx hb dX12_gossips_124 ?_
                refine lv_topi (fun uv17 euv17 => ?_)
                obtain rfl : uv17 = G (7 * dn + ea) ||| G (7 * dn + eb) := euv17.trans (rfl)
                refine lv_istore (lv' := [(8, .int (G (7 * dn + ea) ||| G (7 * dn + eb))), (7, .int (nI (12 * v + i))), (0, .ref h0), (1, .int (nI v)), (2, .int (nI dn)), (3, .int 7), (4, .int (nI (7 * dn))), (5, .int 0), (6, .int (nI i))]) (pc := 125) hx hb dX12_gossips_125 hl (by decide) rfl (fun ls hl => ?_)
                refine lv_aload_n (pc := 127) hx hb dX12_gossips_127 rfl (lv_at hl 2 rfl) ?_
                refine r_get X hW 0 ciX12 48 rfl (by decide) m_1275 rfl rfl dX12_gossips_128 ?_
                refine lv_iload (pc := 131) hx hb dX12_gossips_131 (lv_at hl 8 rfl) ?_
                refine r_zald X hW 5 rfl (vp_in_nI (by omega) (by decide)) dX12_gossips_133 ?_
                refine lv_topi (fun uv18 euv18 => ?_)
                obtain rfl : uv18 = lw i := euv18.trans (by rw [nI_clamp (by omega)])
                refine lv_if_eq (tgt := 276) (pc := 134) hx hb dX12_gossips_134 rfl (fun c19 => ?_) (fun c19 => ?_)
                · refine lv_iinc (v := nI (i + 1)) (lv' := [(6, .int (nI (i + 1))), (8, .int (G (7 * dn + ea) ||| G (7 * dn + eb))), (7, .int (nI (12 * v + i))), (0, .ref h0), (1, .int (nI v)), (2, .int (nI dn)), (3, .int 7), (4, .int (nI (7 * dn))), (5, .int 0)]) (pc := 276) hx hb dX12_gossips_276 hl (k := 8) rfl ((nI_succ i).symm) (by decide) rfl (fun ls hl => ?_)
                  refine lv_goto (tgt := 74) (pc := 279) hx hb dX12_gossips_279 rfl ?_
                  have hW : WD g A s _ _ [(h0, .inr (12, [.int i0, .ref b1, .int i2, .int i3, .int i4, .int i5, .ref b6, .ref b7, .ref b8, .ref b9, .ref b10, .ref b11, .ref b12, .ref b13, .ref b14, .ref b15, .ref b16, .ref b17, .int i18, .int i19, .int i20, .ref b21, .ref b22, .ref b23, .ref b24, .ref b25, .ref b26, .int i27, .ref b28, .ref b29, .ref b30, .ref b31, .ref b32, .ref b33, .ref b34, .ref b35, .ref b36, .int i37, .int i38, .int i39, .int i40, .int i41, .int i42, .int i43, .int i44, .int i45, .ref b46, .ref b47, .ref b48, .ref b49, .ref b50, .ref b51, .ref b52, .ref b53, .ref b54, .ref b55, .ref b56, .ref b57, .ref b58, .ref b59, .ref b60, .ref b61, .ref b62, .ref b63])), (b6, .inl (g.2.1 1, 11, .inl P)), (b7, .inl (g.2.1 1, 11, .inl Lc)), (b12, .inl (g.2.1 1, 132, .inl La)), (b13, .inl (g.2.1 1, 132, .inl Lb)), (b48, .inl (g.2.1 3, 12, .inl lw)), (b46, .inl (g.2.1 1, 112, .inl G2)), (b47, .inl (g.2.1 1, 16, .inl gr))] := hW.pick [0, 1, 2, 3, 4, 5, 6, 7] rfl rfl
                  exact ih2 (i + 1) G2 gr (by omega) (by omega) (hG2) hgr (gno_s hno (by omega) hea heb eA eB (fun ha9 hb9 hw9 hu9 => absurd c19 hw9)) _ _ _ hW (lv_sub hl [3, 4, 5, 6, 7, 8, 0] rfl)
                · have hw_i := c19
                  refine lv_aload_n (pc := 137) hx hb dX12_gossips_137 rfl (lv_at hl 2 rfl) ?_
                  refine r_get X hW 0 ciX12 46 rfl (by decide) m_1273 rfl rfl dX12_gossips_138 ?_
                  refine lv_iload (pc := 141) hx hb dX12_gossips_141 (lv_at hl 6 rfl) ?_
                  refine lv_aload_n (pc := 143) hx hb dX12_gossips_143 rfl (lv_at hl 2 rfl) ?_
                  refine r_get X hW 0 ciX12 12 rfl (by decide) m_1243 rfl rfl dX12_gossips_144 ?_
                  refine lv_iload (pc := 147) hx hb dX12_gossips_147 (lv_at hl 1 rfl) ?_
                  refine r_iald X hW 3 rfl (vp_in_nI (by omega) (by decide)) dX12_gossips_149 ?_
                  refine lv_topi (fun uv20 euv20 => ?_)
                  obtain rfl : uv20 = nI ea := euv20.trans (by rw [nI_clamp (by omega)]; exact eA)
                  refine lv_iadd (pc := 150) hx hb dX12_gossips_150 ?_
                  refine lv_topi (fun uv21 euv21 => ?_)
                  obtain rfl : uv21 = nI (7 * dn + ea) := euv21.trans (nI_add _ _)
                  refine r_iald X hW 6 rfl (vp_in_nI (by omega) (by decide)) dX12_gossips_151 ?_
                  refine lv_topi (fun uv22 euv22 => ?_)
                  obtain rfl : uv22 = G (7 * dn + ea) := euv22.trans (by rw [nI_clamp (by omega)]; exact hG2 _ (by omega))
                  refine lv_iload (pc := 152) hx hb dX12_gossips_152 (lv_at hl 0 rfl) ?_
                  refine lv_icmp_ne (tgt := 180) (pc := 154) hx hb dX12_gossips_154 rfl (fun c23 => ?_) (fun c23 => ?_)
                  · refine lv_iconst (v := 0) (pc := 180) hx hb dX12_gossips_180 (by decide) ?_
                    refine lv_istore (lv' := [(9, .int 0), (8, .int (G (7 * dn + ea) ||| G (7 * dn + eb))), (7, .int (nI (12 * v + i))), (0, .ref h0), (1, .int (nI v)), (2, .int (nI dn)), (3, .int 7), (4, .int (nI (7 * dn))), (5, .int 0), (6, .int (nI i))]) (pc := 181) hx hb dX12_gossips_181 hl (by decide) rfl (fun ls hl => ?_)
                    have loop3 : ∀ (fx : Nat) (y : Nat) (G3 : Nat → Int32), (pp < fx + y) → (y ≤ pp) → (∀ x : Nat, x < 7 * (dn + 1) → G3 x = G x) → (∀ z : Nat, z < y → G3 (7 * dn + 7 + z) = gaft (rwt G dn) ea eb z) → ∀ (H : Heap) (locs : List Loc) (ls : Array Slot), WD g A s H locs [(h0, .inr (12, [.int i0, .ref b1, .int i2, .int i3, .int i4, .int i5, .ref b6, .ref b7, .ref b8, .ref b9, .ref b10, .ref b11, .ref b12, .ref b13, .ref b14, .ref b15, .ref b16, .ref b17, .int i18, .int i19, .int i20, .ref b21, .ref b22, .ref b23, .ref b24, .ref b25, .ref b26, .int i27, .ref b28, .ref b29, .ref b30, .ref b31, .ref b32, .ref b33, .ref b34, .ref b35, .ref b36, .int i37, .int i38, .int i39, .int i40, .int i41, .int i42, .int i43, .int i44, .int i45, .ref b46, .ref b47, .ref b48, .ref b49, .ref b50, .ref b51, .ref b52, .ref b53, .ref b54, .ref b55, .ref b56, .ref b57, .ref b58, .ref b59, .ref b60, .ref b61, .ref b62, .ref b63])), (b6, .inl (g.2.1 1, 11, .inl P)), (b7, .inl (g.2.1 1, 11, .inl Lc)), (b12, .inl (g.2.1 1, 132, .inl La)), (b13, .inl (g.2.1 1, 132, .inl Lb)), (b48, .inl (g.2.1 3, 12, .inl lw)), (b46, .inl (g.2.1 1, 112, .inl G3)), (b47, .inl (g.2.1 1, 16, .inl gr))] → lv_has ls 10 [(0, .ref h0), (1, .int (nI v)), (2, .int (nI dn)), (3, .int 7), (4, .int (nI (7 * dn))), (5, .int 0), (6, .int (nI i)), (7, .int (nI (12 * v + i))), (8, .int (G (7 * dn + ea) ||| G (7 * dn + eb))), (9, .int (nI y))] → W p l e (RM 8 0 0) s m args below meth c H locs 0 0 Q (F0 m 183 ls []) := by
                      intro fx
                      induction fx with
                      | zero =>
                        intro y G3 hm3 hy hG3 hC
                        exact absurd hm3 (by omega)
                      | succ fx ih3 =>
                        intro y G3 hm3 hy hG3 hC H locs ls hW hl
                        refine lv_iload (pc := 183) hx hb dX12_gossips_183 (lv_at hl 9 rfl) ?_
                        refine lv_aload_n (pc := 185) hx hb dX12_gossips_185 rfl (lv_at hl 0 rfl) ?_
                        refine r_get X hW 0 ciX12 6 rfl (by decide) m_1237 rfl rfl dX12_gossips_186 ?_
                        refine lv_iload_n (pc := 189) hx hb dX12_gossips_189 rfl (lv_at hl 1 rfl) ?_
                        refine r_iald X hW 1 rfl (vp_in_nI (by omega) (by decide)) dX12_gossips_190 ?_
                        refine lv_topi (fun uv24 euv24 => ?_)
                        obtain rfl : uv24 = nI pp := euv24.trans (by rw [nI_clamp (by omega)]; exact hP)
                        refine lv_icmp_ge (tgt := 252) (pc := 191) hx hb dX12_gossips_191 rfl (fun c25 => ?_) (fun c25 => ?_)
                        · have hyk : y = pp := Nat.le_antisymm hy (ge_t (by omega) (by omega) c25)
                          rw [hyk] at hC
                          refine lv_aload_n (pc := 252) hx hb dX12_gossips_252 rfl (lv_at hl 0 rfl) ?_
                          refine r_get X hW 0 ciX12 47 rfl (by decide) m_1274 rfl rfl dX12_gossips_253 ?_
                          refine lv_iload_n (pc := 256) hx hb dX12_gossips_256 rfl (lv_at hl 2 rfl) ?_
                          refine lv_iload (pc := 257) hx hb dX12_gossips_257 (lv_at hl 6 rfl) ?_
                          obtain ⟨f26, ef26⟩ : ∃ fz : Nat → Int32, upd gr (nI dn).toNatClampNeg (nI i) = fz := ⟨_, rfl⟩
                          refine r_iast (ws' := [(h0, .inr (12, [.int i0, .ref b1, .int i2, .int i3, .int i4, .int i5, .ref b6, .ref b7, .ref b8, .ref b9, .ref b10, .ref b11, .ref b12, .ref b13, .ref b14, .ref b15, .ref b16, .ref b17, .int i18, .int i19, .int i20, .ref b21, .ref b22, .ref b23, .ref b24, .ref b25, .ref b26, .int i27, .ref b28, .ref b29, .ref b30, .ref b31, .ref b32, .ref b33, .ref b34, .ref b35, .ref b36, .int i37, .int i38, .int i39, .int i40, .int i41, .int i42, .int i43, .int i44, .int i45, .ref b46, .ref b47, .ref b48, .ref b49, .ref b50, .ref b51, .ref b52, .ref b53, .ref b54, .ref b55, .ref b56, .ref b57, .ref b58, .ref b59, .ref b60, .ref b61, .ref b62, .ref b63])), (b6, .inl (g.2.1 1, 11, .inl P)), (b7, .inl (g.2.1 1, 11, .inl Lc)), (b12, .inl (g.2.1 1, 132, .inl La)), (b13, .inl (g.2.1 1, 132, .inl Lb)), (b48, .inl (g.2.1 3, 12, .inl lw)), (b46, .inl (g.2.1 1, 112, .inl G3)), (b47, .inl (g.2.1 1, 16, .inl f26))]) X hW 7 rfl (vp_in_nI (by omega) (by decide)) ef26 rfl dX12_gossips_259 (fun H locs hW => ?_)
                          have hg_f26 : gb16 f26 := by rw [← ef26]; exact gb16_upd hgr (by omega)
                          refine lv_aload_n (pc := 260) hx hb dX12_gossips_260 rfl (lv_at hl 0 rfl) ?_
                          refine lv_iload_n (pc := 261) hx hb dX12_gossips_261 rfl (lv_at hl 1 rfl) ?_
                          refine lv_iload_n (pc := 262) hx hb dX12_gossips_262 rfl (lv_at hl 2 rfl) ?_
                          refine lv_iconst (v := 1) (pc := 263) hx hb dX12_gossips_263 (by decide) ?_
                          refine lv_iadd (pc := 264) hx hb dX12_gossips_264 ?_
                          refine lv_topi (fun uv27 euv27 => ?_)
                          obtain rfl : uv27 = nI (dn + 1) := euv27.trans (nI_1 _)
                          refine lv_iload_n (pc := 265) hx hb dX12_gossips_265 rfl (lv_at hl 3 rfl) ?_
                          refine lv_iconst (v := 1) (pc := 266) hx hb dX12_gossips_266 (by decide) ?_
                          refine lv_isub (pc := 267) hx hb dX12_gossips_267 ?_
                          refine lv_topi (fun uv28 euv28 => ?_)
                          obtain rfl : uv28 = 6 := euv28.trans (by decide +kernel)
                          refine c_Vi (pc := 268) (As := [.int (nI v), .int (nI (dn + 1)), .int 6]) (rest := []) (wr := []) X hW 0 ciX12 rfl (C_X12_gossips_6 l g h0 b1 b6 b7 b8 b9 b10 b11 b12 b13 b14 b15 b16 b17 b21 b22 b23 b24 b25 b26 b28 b29 b30 b31 b32 b33 b34 b35 b36 b46 b47 b48 b49 b50 b51 b52 b53 b54 b55 b56 b57 b58 b59 b60 b61 b62 b63 i0 i2 i3 i4 i5 i18 i19 i20 i27 i37 i38 i39 i40 i41 i42 i43 i44 i45 P Lc La Lb lw G3 f26 v lc pp (dn + 1) hv hlc hpp hP hLc hLA hLB hg_f26 (by omega)) vX12_346 [0, 1, 2, 3, 4, 5, 6, 7] [] rfl rfl rfl rfl rfl rfl hl.1 rfl (Nat.le_of_ble_eq_true rfl) ⟨Nat.le_of_ble_eq_true rfl, Nat.le_of_ble_eq_true rfl⟩ ⟨Nat.le_of_ble_eq_true rfl, Nat.le_of_ble_eq_true rfl⟩ dX12_gossips_268 (fun r31 u9 H locs hq hW => ?_)
                          obtain ⟨gq29, gw30, -, hq1_gq29, hq2_gq29, hgw30, rfl⟩ := hq
                          have hW : WD g A s _ _ [(h0, .inr (12, [.int i0, .ref b1, .int i2, .int i3, .int i4, .int i5, .ref b6, .ref b7, .ref b8, .ref b9, .ref b10, .ref b11, .ref b12, .ref b13, .ref b14, .ref b15, .ref b16, .ref b17, .int i18, .int i19, .int i20, .ref b21, .ref b22, .ref b23, .ref b24, .ref b25, .ref b26, .int i27, .ref b28, .ref b29, .ref b30, .ref b31, .ref b32, .ref b33, .ref b34, .ref b35, .ref b36, .int i37, .int i38, .int i39, .int i40, .int i41, .int i42, .int i43, .int i44, .int i45, .ref b46, .ref b47, .ref b48, .ref b49, .ref b50, .ref b51, .ref b52, .ref b53, .ref b54, .ref b55, .ref b56, .ref b57, .ref b58, .ref b59, .ref b60, .ref b61, .ref b62, .ref b63])), (b6, .inl (g.2.1 1, 11, .inl P)), (b7, .inl (g.2.1 1, 11, .inl Lc)), (b12, .inl (g.2.1 1, 132, .inl La)), (b13, .inl (g.2.1 1, 132, .inl Lb)), (b48, .inl (g.2.1 3, 12, .inl lw)), (b46, .inl (g.2.1 1, 112, .inl gq29)), (b47, .inl (g.2.1 1, 16, .inl gw30))] := hW
                          refine lv_if_eq (tgt := 276) (pc := 271) hx hb dX12_gossips_271 rfl (fun c32 => ?_) (fun c32 => ?_)
                          · refine lv_iinc (v := nI (i + 1)) (lv' := [(6, .int (nI (i + 1))), (0, .ref h0), (1, .int (nI v)), (2, .int (nI dn)), (3, .int 7), (4, .int (nI (7 * dn))), (5, .int 0), (7, .int (nI (12 * v + i))), (8, .int (G (7 * dn + ea) ||| G (7 * dn + eb))), (9, .int (nI y))]) (pc := 276) hx hb dX12_gossips_276 hl (k := 6) rfl ((nI_succ i).symm) (by decide) rfl (fun ls hl => ?_)
                            refine lv_goto (tgt := 74) (pc := 279) hx hb dX12_gossips_279 rfl ?_
                            have hW : WD g A s _ _ [(h0, .inr (12, [.int i0, .ref b1, .int i2, .int i3, .int i4, .int i5, .ref b6, .ref b7, .ref b8, .ref b9, .ref b10, .ref b11, .ref b12, .ref b13, .ref b14, .ref b15, .ref b16, .ref b17, .int i18, .int i19, .int i20, .ref b21, .ref b22, .ref b23, .ref b24, .ref b25, .ref b26, .int i27, .ref b28, .ref b29, .ref b30, .ref b31, .ref b32, .ref b33, .ref b34, .ref b35, .ref b36, .int i37, .int i38, .int i39, .int i40, .int i41, .int i42, .int i43, .int i44, .int i45, .ref b46, .ref b47, .ref b48, .ref b49, .ref b50, .ref b51, .ref b52, .ref b53, .ref b54, .ref b55, .ref b56, .ref b57, .ref b58, .ref b59, .ref b60, .ref b61, .ref b62, .ref b63])), (b6, .inl (g.2.1 1, 11, .inl P)), (b7, .inl (g.2.1 1, 11, .inl Lc)), (b12, .inl (g.2.1 1, 132, .inl La)), (b13, .inl (g.2.1 1, 132, .inl Lb)), (b48, .inl (g.2.1 3, 12, .inl lw)), (b46, .inl (g.2.1 1, 112, .inl gq29)), (b47, .inl (g.2.1 1, 16, .inl gw30))] := hW.pick [0, 1, 2, 3, 4, 5, 6, 7] rfl rfl
                            exact ih2 (i + 1) gq29 gw30 (by omega) (by omega) (fun x hx => (hq2_gq29 x (by omega)).trans (hG3 x hx)) hgw30 (gno_s hno (by omega) hea heb eA eB (fun ha9 hb9 hw9 hu9 => fun hg9 => absurd (hq1_gq29 (gok_cong hg9 (fun o ho => (hC o ho).symm))) (by rw [c32]; decide))) _ _ _ hW (lv_sub hl [1, 2, 3, 4, 5, 6, 0] rfl)
                          · refine lv_iconst (v := 1) (pc := 274) hx hb dX12_gossips_274 (by decide) ?_
                            exact e_z X hQ hr hW (u := [(h0, .inr (12, [.int i0, .ref b1, .int i2, .int i3, .int i4, .int i5, .ref b6, .ref b7, .ref b8, .ref b9, .ref b10, .ref b11, .ref b12, .ref b13, .ref b14, .ref b15, .ref b16, .ref b17, .int i18, .int i19, .int i20, .ref b21, .ref b22, .ref b23, .ref b24, .ref b25, .ref b26, .int i27, .ref b28, .ref b29, .ref b30, .ref b31, .ref b32, .ref b33, .ref b34, .ref b35, .ref b36, .int i37, .int i38, .int i39, .int i40, .int i41, .int i42, .int i43, .int i44, .int i45, .ref b46, .ref b47, .ref b48, .ref b49, .ref b50, .ref b51, .ref b52, .ref b53, .ref b54, .ref b55, .ref b56, .ref b57, .ref b58, .ref b59, .ref b60, .ref b61, .ref b62, .ref b63])), (b6, .inl (g.2.1 1, 11, .inl P)), (b7, .inl (g.2.1 1, 11, .inl Lc)), (b12, .inl (g.2.1 1, 132, .inl La)), (b13, .inl (g.2.1 1, 132, .inl Lb)), (b48, .inl (g.2.1 3, 12, .inl lw)), (b46, .inl (g.2.1 1, 112, .inl gq29)), (b47, .inl (g.2.1 1, 16, .inl gw30))]) rfl [0, 1, 2, 3, 4, 5, 6, 7] rfl rfl (⟨_, _, Or.inr rfl, fun _ => rfl, fun x hx => (hq2_gq29 x (by omega)).trans (hG3 x hx), hgw30, rfl⟩) ⟨Nat.le_of_ble_eq_true rfl, Nat.le_of_ble_eq_true rfl⟩ dX12_gossips_275
                        · have hyl : y < pp := ge_f (by omega) (by omega) c25
                          refine lv_aload_n (pc := 194) hx hb dX12_gossips_194 rfl (lv_at hl 0 rfl) ?_
                          refine r_get X hW 0 ciX12 46 rfl (by decide) m_1273 rfl rfl dX12_gossips_195 ?_
                          refine lv_iload (pc := 198) hx hb dX12_gossips_198 (lv_at hl 4 rfl) ?_
                          refine lv_bipush (v := 7) (pc := 200) hx hb dX12_gossips_200 (by decide) ?_
                          refine lv_iadd (pc := 202) hx hb dX12_gossips_202 ?_
                          refine lv_topi (fun uv33 euv33 => ?_)
                          obtain rfl : uv33 = nI (7 * dn + 7) := euv33.trans (nI_add _ _)
                          refine lv_iload (pc := 203) hx hb dX12_gossips_203 (lv_at hl 9 rfl) ?_
                          refine lv_iadd (pc := 205) hx hb dX12_gossips_205 ?_
                          refine lv_topi (fun uv34 euv34 => ?_)
                          obtain rfl : uv34 = nI (7 * dn + 7 + y) := euv34.trans (nI_add _ _)
                          refine lv_iload (pc := 206) hx hb dX12_gossips_206 (lv_at hl 9 rfl) ?_
                          refine lv_aload_n (pc := 208) hx hb dX12_gossips_208 rfl (lv_at hl 0 rfl) ?_
                          refine r_get X hW 0 ciX12 12 rfl (by decide) m_1243 rfl rfl dX12_gossips_209 ?_
                          refine lv_iload (pc := 212) hx hb dX12_gossips_212 (lv_at hl 7 rfl) ?_
                          refine r_iald X hW 3 rfl (vp_in_nI (by omega) (by decide)) dX12_gossips_214 ?_
                          refine lv_topi (fun uv35 euv35 => ?_)
                          obtain rfl : uv35 = nI ea := euv35.trans (by rw [nI_clamp (by omega)]; exact eA)
                          refine lv_icmp_eq (tgt := 230) (pc := 215) hx hb dX12_gossips_215 rfl (fun c36 => ?_) (fun c36 => ?_)
                          · refine lv_iload (pc := 230) hx hb dX12_gossips_230 (lv_at hl 8 rfl) ?_
                            refine lv_goto (tgt := 245) (pc := 232) hx hb dX12_gossips_232 rfl ?_
                            obtain ⟨f37, ef37⟩ : ∃ fz : Nat → Int32, upd G3 (nI (7 * dn + 7 + y)).toNatClampNeg (G (7 * dn + ea) ||| G (7 * dn + eb)) = fz := ⟨_, rfl⟩
                            refine r_iast (ws' := [(h0, .inr (12, [.int i0, .ref b1, .int i2, .int i3, .int i4, .int i5, .ref b6, .ref b7, .ref b8, .ref b9, .ref b10, .ref b11, .ref b12, .ref b13, .ref b14, .ref b15, .ref b16, .ref b17, .int i18, .int i19, .int i20, .ref b21, .ref b22, .ref b23, .ref b24, .ref b25, .ref b26, .int i27, .ref b28, .ref b29, .ref b30, .ref b31, .ref b32, .ref b33, .ref b34, .ref b35, .ref b36, .int i37, .int i38, .int i39, .int i40, .int i41, .int i42, .int i43, .int i44, .int i45, .ref b46, .ref b47, .ref b48, .ref b49, .ref b50, .ref b51, .ref b52, .ref b53, .ref b54, .ref b55, .ref b56, .ref b57, .ref b58, .ref b59, .ref b60, .ref b61, .ref b62, .ref b63])), (b6, .inl (g.2.1 1, 11, .inl P)), (b7, .inl (g.2.1 1, 11, .inl Lc)), (b12, .inl (g.2.1 1, 132, .inl La)), (b13, .inl (g.2.1 1, 132, .inl Lb)), (b48, .inl (g.2.1 3, 12, .inl lw)), (b46, .inl (g.2.1 1, 112, .inl f37)), (b47, .inl (g.2.1 1, 16, .inl gr))]) X hW 6 rfl (vp_in_nI (by omega) (by decide)) ef37 rfl dX12_gossips_245 (fun H locs hW => ?_)
                            refine lv_iinc (v := nI (y + 1)) (lv' := [(9, .int (nI (y + 1))), (0, .ref h0), (1, .int (nI v)), (2, .int (nI dn)), (3, .int 7), (4, .int (nI (7 * dn))), (5, .int 0), (6, .int (nI i)), (7, .int (nI (12 * v + i))), (8, .int (G (7 * dn + ea) ||| G (7 * dn + eb)))]) (pc := 246) hx hb dX12_gossips_246 hl (k := 9) rfl ((nI_succ y).symm) (by decide) rfl (fun ls hl => ?_)
                            refine lv_goto (tgt := 183) (pc := 249) hx hb dX12_gossips_249 rfl ?_
                            have hW : WD g A s _ _ [(h0, .inr (12, [.int i0, .ref b1, .int i2, .int i3, .int i4, .int i5, .ref b6, .ref b7, .ref b8, .ref b9, .ref b10, .ref b11, .ref b12, .ref b13, .ref b14, .ref b15, .ref b16, .ref b17, .int i18, .int i19, .int i20, .ref b21, .ref b22, .ref b23, .ref b24, .ref b25, .ref b26, .int i27, .ref b28, .ref b29, .ref b30, .ref b31, .ref b32, .ref b33, .ref b34, .ref b35, .ref b36, .int i37, .int i38, .int i39, .int i40, .int i41, .int i42, .int i43, .int i44, .int i45, .ref b46, .ref b47, .ref b48, .ref b49, .ref b50, .ref b51, .ref b52, .ref b53, .ref b54, .ref b55, .ref b56, .ref b57, .ref b58, .ref b59, .ref b60, .ref b61, .ref b62, .ref b63])), (b6, .inl (g.2.1 1, 11, .inl P)), (b7, .inl (g.2.1 1, 11, .inl Lc)), (b12, .inl (g.2.1 1, 132, .inl La)), (b13, .inl (g.2.1 1, 132, .inl Lb)), (b48, .inl (g.2.1 3, 12, .inl lw)), (b46, .inl (g.2.1 1, 112, .inl f37)), (b47, .inl (g.2.1 1, 16, .inl gr))] := hW.pick [0, 1, 2, 3, 4, 5, 6, 7] rfl rfl
                            exact ih3 (y + 1) f37 (by omega) (by omega) (fun x hx => by
                                rw [← ef37, nI_clamp (by omega)]
                                simp only [upd, show ¬ x = 7 * dn + 7 + y by omega, if_false]
                                exact hG3 x hx) (fun z hz => by
                                rw [← ef37, nI_clamp (by omega)]
                                by_cases e9 : z = y
                                · subst e9; simp only [upd, if_true]; rw [gaft, if_pos (Or.inl (nI_inj6 (by omega) (by omega) c36))]; rfl
                                · simp only [upd, show ¬ 7 * dn + 7 + z = 7 * dn + 7 + y by omega, if_false]; exact hC z (by omega)) _ _ _ hW (lv_sub hl [1, 2, 3, 4, 5, 6, 7, 8, 9, 0] rfl)
                          · refine lv_iload (pc := 218) hx hb dX12_gossips_218 (lv_at hl 9 rfl) ?_
                            refine lv_aload_n (pc := 220) hx hb dX12_gossips_220 rfl (lv_at hl 0 rfl) ?_
                            refine r_get X hW 0 ciX12 13 rfl (by decide) m_1244 rfl rfl dX12_gossips_221 ?_
                            refine lv_iload (pc := 224) hx hb dX12_gossips_224 (lv_at hl 7 rfl) ?_
                            refine r_iald X hW 4 rfl (vp_in_nI (by omega) (by decide)) dX12_gossips_226 ?_
                            refine lv_topi (fun uv38 euv38 => ?_)
                            obtain rfl : uv38 = nI eb := euv38.trans (by rw [nI_clamp (by omega)]; exact eB)
                            refine lv_icmp_ne (tgt := 235) (pc := 227) hx hb dX12_gossips_227 rfl (fun c39 => ?_) (fun c39 => ?_)
                            · refine lv_aload_n (pc := 235) hx hb dX12_gossips_235 rfl (lv_at hl 0 rfl) ?_
                              refine r_get X hW 0 ciX12 46 rfl (by decide) m_1273 rfl rfl dX12_gossips_236 ?_
                              refine lv_iload (pc := 239) hx hb dX12_gossips_239 (lv_at hl 4 rfl) ?_
                              refine lv_iload (pc := 241) hx hb dX12_gossips_241 (lv_at hl 9 rfl) ?_
                              refine lv_iadd (pc := 243) hx hb dX12_gossips_243 ?_
                              refine lv_topi (fun uv40 euv40 => ?_)
                              obtain rfl : uv40 = nI (7 * dn + y) := euv40.trans (nI_add _ _)
                              refine r_iald X hW 6 rfl (vp_in_nI (by omega) (by decide)) dX12_gossips_244 ?_
                              refine lv_topi (fun uv41 euv41 => ?_)
                              obtain rfl : uv41 = G (7 * dn + y) := euv41.trans (by rw [nI_clamp (by omega)]; exact hG3 _ (by omega))
                              obtain ⟨f42, ef42⟩ : ∃ fz : Nat → Int32, upd G3 (nI (7 * dn + 7 + y)).toNatClampNeg (G (7 * dn + y)) = fz := ⟨_, rfl⟩
                              refine r_iast (ws' := [(h0, .inr (12, [.int i0, .ref b1, .int i2, .int i3, .int i4, .int i5, .ref b6, .ref b7, .ref b8, .ref b9, .ref b10, .ref b11, .ref b12, .ref b13, .ref b14, .ref b15, .ref b16, .ref b17, .int i18, .int i19, .int i20, .ref b21, .ref b22, .ref b23, .ref b24, .ref b25, .ref b26, .int i27, .ref b28, .ref b29, .ref b30, .ref b31, .ref b32, .ref b33, .ref b34, .ref b35, .ref b36, .int i37, .int i38, .int i39, .int i40, .int i41, .int i42, .int i43, .int i44, .int i45, .ref b46, .ref b47, .ref b48, .ref b49, .ref b50, .ref b51, .ref b52, .ref b53, .ref b54, .ref b55, .ref b56, .ref b57, .ref b58, .ref b59, .ref b60, .ref b61, .ref b62, .ref b63])), (b6, .inl (g.2.1 1, 11, .inl P)), (b7, .inl (g.2.1 1, 11, .inl Lc)), (b12, .inl (g.2.1 1, 132, .inl La)), (b13, .inl (g.2.1 1, 132, .inl Lb)), (b48, .inl (g.2.1 3, 12, .inl lw)), (b46, .inl (g.2.1 1, 112, .inl f42)), (b47, .inl (g.2.1 1, 16, .inl gr))]) X hW 6 rfl (vp_in_nI (by omega) (by decide)) ef42 rfl dX12_gossips_245 (fun H locs hW => ?_)
                              refine lv_iinc (v := nI (y + 1)) (lv' := [(9, .int (nI (y + 1))), (0, .ref h0), (1, .int (nI v)), (2, .int (nI dn)), (3, .int 7), (4, .int (nI (7 * dn))), (5, .int 0), (6, .int (nI i)), (7, .int (nI (12 * v + i))), (8, .int (G (7 * dn + ea) ||| G (7 * dn + eb)))]) (pc := 246) hx hb dX12_gossips_246 hl (k := 9) rfl ((nI_succ y).symm) (by decide) rfl (fun ls hl => ?_)
                              refine lv_goto (tgt := 183) (pc := 249) hx hb dX12_gossips_249 rfl ?_
                              have hW : WD g A s _ _ [(h0, .inr (12, [.int i0, .ref b1, .int i2, .int i3, .int i4, .int i5, .ref b6, .ref b7, .ref b8, .ref b9, .ref b10, .ref b11, .ref b12, .ref b13, .ref b14, .ref b15, .ref b16, .ref b17, .int i18, .int i19, .int i20, .ref b21, .ref b22, .ref b23, .ref b24, .ref b25, .ref b26, .int i27, .ref b28, .ref b29, .ref b30, .ref b31, .ref b32, .ref b33, .ref b34, .ref b35, .ref b36, .int i37, .int i38, .int i39, .int i40, .int i41, .int i42, .int i43, .int i44, .int i45, .ref b46, .ref b47, .ref b48, .ref b49, .ref b50, .ref b51, .ref b52, .ref b53, .ref b54, .ref b55, .ref b56, .ref b57, .ref b58, .ref b59, .ref b60, .ref b61, .ref b62, .ref b63])), (b6, .inl (g.2.1 1, 11, .inl P)), (b7, .inl (g.2.1 1, 11, .inl Lc)), (b12, .inl (g.2.1 1, 132, .inl La)), (b13, .inl (g.2.1 1, 132, .inl Lb)), (b48, .inl (g.2.1 3, 12, .inl lw)), (b46, .inl (g.2.1 1, 112, .inl f42)), (b47, .inl (g.2.1 1, 16, .inl gr))] := hW.pick [0, 1, 2, 3, 4, 5, 6, 7] rfl rfl
                              exact ih3 (y + 1) f42 (by omega) (by omega) (fun x hx => by
                                  rw [← ef42, nI_clamp (by omega)]
                                  simp only [upd, show ¬ x = 7 * dn + 7 + y by omega, if_false]
                                  exact hG3 x hx) (fun z hz => by
                                  rw [← ef42, nI_clamp (by omega)]
                                  by_cases e9 : z = y
                                  · subst e9; simp only [upd, if_true]; rw [gaft, if_neg (fun q => q.elim (fun r => c36 (congrArg nI r)) (fun r => c39 (congrArg nI r)))]; rfl
                                  · simp only [upd, show ¬ 7 * dn + 7 + z = 7 * dn + 7 + y by omega, if_false]; exact hC z (by omega)) _ _ _ hW (lv_sub hl [1, 2, 3, 4, 5, 6, 7, 8, 9, 0] rfl)
                            · refine lv_iload (pc := 230) hx hb dX12_gossips_230 (lv_at hl 8 rfl) ?_
                              refine lv_goto (tgt := 245) (pc := 232) hx hb dX12_gossips_232 rfl ?_
                              obtain ⟨f43, ef43⟩ : ∃ fz : Nat → Int32, upd G3 (nI (7 * dn + 7 + y)).toNatClampNeg (G (7 * dn + ea) ||| G (7 * dn + eb)) = fz := ⟨_, rfl⟩
                              refine r_iast (ws' := [(h0, .inr (12, [.int i0, .ref b1, .int i2, .int i3, .int i4, .int i5, .ref b6, .ref b7, .ref b8, .ref b9, .ref b10, .ref b11, .ref b12, .ref b13, .ref b14, .ref b15, .ref b16, .ref b17, .int i18, .int i19, .int i20, .ref b21, .ref b22, .ref b23, .ref b24, .ref b25, .ref b26, .int i27, .ref b28, .ref b29, .ref b30, .ref b31, .ref b32, .ref b33, .ref b34, .ref b35, .ref b36, .int i37, .int i38, .int i39, .int i40, .int i41, .int i42, .int i43, .int i44, .int i45, .ref b46, .ref b47, .ref b48, .ref b49, .ref b50, .ref b51, .ref b52, .ref b53, .ref b54, .ref b55, .ref b56, .ref b57, .ref b58, .ref b59, .ref b60, .ref b61, .ref b62, .ref b63])), (b6, .inl (g.2.1 1, 11, .inl P)), (b7, .inl (g.2.1 1, 11, .inl Lc)), (b12, .inl (g.2.1 1, 132, .inl La)), (b13, .inl (g.2.1 1, 132, .inl Lb)), (b48, .inl (g.2.1 3, 12, .inl lw)), (b46, .inl (g.2.1 1, 112, .inl f43)), (b47, .inl (g.2.1 1, 16, .inl gr))]) X hW 6 rfl (vp_in_nI (by omega) (by decide)) ef43 rfl dX12_gossips_245 (fun H locs hW => ?_)
                              refine lv_iinc (v := nI (y + 1)) (lv' := [(9, .int (nI (y + 1))), (0, .ref h0), (1, .int (nI v)), (2, .int (nI dn)), (3, .int 7), (4, .int (nI (7 * dn))), (5, .int 0), (6, .int (nI i)), (7, .int (nI (12 * v + i))), (8, .int (G (7 * dn + ea) ||| G (7 * dn + eb)))]) (pc := 246) hx hb dX12_gossips_246 hl (k := 9) rfl ((nI_succ y).symm) (by decide) rfl (fun ls hl => ?_)
                              refine lv_goto (tgt := 183) (pc := 249) hx hb dX12_gossips_249 rfl ?_
                              have hW : WD g A s _ _ [(h0, .inr (12, [.int i0, .ref b1, .int i2, .int i3, .int i4, .int i5, .ref b6, .ref b7, .ref b8, .ref b9, .ref b10, .ref b11, .ref b12, .ref b13, .ref b14, .ref b15, .ref b16, .ref b17, .int i18, .int i19, .int i20, .ref b21, .ref b22, .ref b23, .ref b24, .ref b25, .ref b26, .int i27, .ref b28, .ref b29, .ref b30, .ref b31, .ref b32, .ref b33, .ref b34, .ref b35, .ref b36, .int i37, .int i38, .int i39, .int i40, .int i41, .int i42, .int i43, .int i44, .int i45, .ref b46, .ref b47, .ref b48, .ref b49, .ref b50, .ref b51, .ref b52, .ref b53, .ref b54, .ref b55, .ref b56, .ref b57, .ref b58, .ref b59, .ref b60, .ref b61, .ref b62, .ref b63])), (b6, .inl (g.2.1 1, 11, .inl P)), (b7, .inl (g.2.1 1, 11, .inl Lc)), (b12, .inl (g.2.1 1, 132, .inl La)), (b13, .inl (g.2.1 1, 132, .inl Lb)), (b48, .inl (g.2.1 3, 12, .inl lw)), (b46, .inl (g.2.1 1, 112, .inl f43)), (b47, .inl (g.2.1 1, 16, .inl gr))] := hW.pick [0, 1, 2, 3, 4, 5, 6, 7] rfl rfl
                              exact ih3 (y + 1) f43 (by omega) (by omega) (fun x hx => by
                                  rw [← ef43, nI_clamp (by omega)]
                                  simp only [upd, show ¬ x = 7 * dn + 7 + y by omega, if_false]
                                  exact hG3 x hx) (fun z hz => by
                                  rw [← ef43, nI_clamp (by omega)]
                                  by_cases e9 : z = y
                                  · subst e9; simp only [upd, if_true]; rw [gaft, if_pos (Or.inr (nI_inj6 (by omega) (by omega) c39))]; rfl
                                  · simp only [upd, show ¬ 7 * dn + 7 + z = 7 * dn + 7 + y by omega, if_false]; exact hC z (by omega)) _ _ _ hW (lv_sub hl [1, 2, 3, 4, 5, 6, 7, 8, 9, 0] rfl)
                    exact loop3 (pp + 1) 0 G2 (by omega) (Nat.zero_le _) hG2 (fun z hz => absurd hz (Nat.not_lt_zero z)) _ _ _ hW (lv_sub hl [3, 4, 5, 6, 7, 8, 9, 2, 1, 0] rfl)
                  · have h_eA := c23
                    refine lv_aload_n (pc := 157) hx hb dX12_gossips_157 rfl (lv_at hl 2 rfl) ?_
                    refine r_get X hW 0 ciX12 46 rfl (by decide) m_1273 rfl rfl dX12_gossips_158 ?_
                    refine lv_iload (pc := 161) hx hb dX12_gossips_161 (lv_at hl 6 rfl) ?_
                    refine lv_aload_n (pc := 163) hx hb dX12_gossips_163 rfl (lv_at hl 2 rfl) ?_
                    refine r_get X hW 0 ciX12 13 rfl (by decide) m_1244 rfl rfl dX12_gossips_164 ?_
                    refine lv_iload (pc := 167) hx hb dX12_gossips_167 (lv_at hl 1 rfl) ?_
                    refine r_iald X hW 4 rfl (vp_in_nI (by omega) (by decide)) dX12_gossips_169 ?_
                    refine lv_topi (fun uv44 euv44 => ?_)
                    obtain rfl : uv44 = nI eb := euv44.trans (by rw [nI_clamp (by omega)]; exact eB)
                    refine lv_iadd (pc := 170) hx hb dX12_gossips_170 ?_
                    refine lv_topi (fun uv45 euv45 => ?_)
                    obtain rfl : uv45 = nI (7 * dn + eb) := euv45.trans (nI_add _ _)
                    refine r_iald X hW 6 rfl (vp_in_nI (by omega) (by decide)) dX12_gossips_171 ?_
                    refine lv_topi (fun uv46 euv46 => ?_)
                    obtain rfl : uv46 = G (7 * dn + eb) := euv46.trans (by rw [nI_clamp (by omega)]; exact hG2 _ (by omega))
                    refine lv_iload (pc := 172) hx hb dX12_gossips_172 (lv_at hl 0 rfl) ?_
                    refine lv_icmp_ne (tgt := 180) (pc := 174) hx hb dX12_gossips_174 rfl (fun c47 => ?_) (fun c47 => ?_)
                    · refine lv_iconst (v := 0) (pc := 180) hx hb dX12_gossips_180 (by decide) ?_
                      refine lv_istore (lv' := [(9, .int 0), (8, .int (G (7 * dn + ea) ||| G (7 * dn + eb))), (7, .int (nI (12 * v + i))), (0, .ref h0), (1, .int (nI v)), (2, .int (nI dn)), (3, .int 7), (4, .int (nI (7 * dn))), (5, .int 0), (6, .int (nI i))]) (pc := 181) hx hb dX12_gossips_181 hl (by decide) rfl (fun ls hl => ?_)
                      have loop3 : ∀ (fx : Nat) (y : Nat) (G3 : Nat → Int32), (pp < fx + y) → (y ≤ pp) → (∀ x : Nat, x < 7 * (dn + 1) → G3 x = G x) → (∀ z : Nat, z < y → G3 (7 * dn + 7 + z) = gaft (rwt G dn) ea eb z) → ∀ (H : Heap) (locs : List Loc) (ls : Array Slot), WD g A s H locs [(h0, .inr (12, [.int i0, .ref b1, .int i2, .int i3, .int i4, .int i5, .ref b6, .ref b7, .ref b8, .ref b9, .ref b10, .ref b11, .ref b12, .ref b13, .ref b14, .ref b15, .ref b16, .ref b17, .int i18, .int i19, .int i20, .ref b21, .ref b22, .ref b23, .ref b24, .ref b25, .ref b26, .int i27, .ref b28, .ref b29, .ref b30, .ref b31, .ref b32, .ref b33, .ref b34, .ref b35, .ref b36, .int i37, .int i38, .int i39, .int i40, .int i41, .int i42, .int i43, .int i44, .int i45, .ref b46, .ref b47, .ref b48, .ref b49, .ref b50, .ref b51, .ref b52, .ref b53, .ref b54, .ref b55, .ref b56, .ref b57, .ref b58, .ref b59, .ref b60, .ref b61, .ref b62, .ref b63])), (b6, .inl (g.2.1 1, 11, .inl P)), (b7, .inl (g.2.1 1, 11, .inl Lc)), (b12, .inl (g.2.1 1, 132, .inl La)), (b13, .inl (g.2.1 1, 132, .inl Lb)), (b48, .inl (g.2.1 3, 12, .inl lw)), (b46, .inl (g.2.1 1, 112, .inl G3)), (b47, .inl (g.2.1 1, 16, .inl gr))] → lv_has ls 10 [(0, .ref h0), (1, .int (nI v)), (2, .int (nI dn)), (3, .int 7), (4, .int (nI (7 * dn))), (5, .int 0), (6, .int (nI i)), (7, .int (nI (12 * v + i))), (8, .int (G (7 * dn + ea) ||| G (7 * dn + eb))), (9, .int (nI y))] → W p l e (RM 8 0 0) s m args below meth c H locs 0 0 Q (F0 m 183 ls []) := by
                        intro fx
                        induction fx with
                        | zero =>
                          intro y G3 hm3 hy hG3 hC
                          exact absurd hm3 (by omega)
                        | succ fx ih3 =>
                          intro y G3 hm3 hy hG3 hC H locs ls hW hl
                          refine lv_iload (pc := 183) hx hb dX12_gossips_183 (lv_at hl 9 rfl) ?_
                          refine lv_aload_n (pc := 185) hx hb dX12_gossips_185 rfl (lv_at hl 0 rfl) ?_
                          refine r_get X hW 0 ciX12 6 rfl (by decide) m_1237 rfl rfl dX12_gossips_186 ?_
                          refine lv_iload_n (pc := 189) hx hb dX12_gossips_189 rfl (lv_at hl 1 rfl) ?_
                          refine r_iald X hW 1 rfl (vp_in_nI (by omega) (by decide)) dX12_gossips_190 ?_
                          refine lv_topi (fun uv48 euv48 => ?_)
                          obtain rfl : uv48 = nI pp := euv48.trans (by rw [nI_clamp (by omega)]; exact hP)
                          refine lv_icmp_ge (tgt := 252) (pc := 191) hx hb dX12_gossips_191 rfl (fun c49 => ?_) (fun c49 => ?_)
                          · have hyk : y = pp := Nat.le_antisymm hy (ge_t (by omega) (by omega) c49)
                            rw [hyk] at hC
                            refine lv_aload_n (pc := 252) hx hb dX12_gossips_252 rfl (lv_at hl 0 rfl) ?_
                            refine r_get X hW 0 ciX12 47 rfl (by decide) m_1274 rfl rfl dX12_gossips_253 ?_
                            refine lv_iload_n (pc := 256) hx hb dX12_gossips_256 rfl (lv_at hl 2 rfl) ?_
                            refine lv_iload (pc := 257) hx hb dX12_gossips_257 (lv_at hl 6 rfl) ?_
                            obtain ⟨f50, ef50⟩ : ∃ fz : Nat → Int32, upd gr (nI dn).toNatClampNeg (nI i) = fz := ⟨_, rfl⟩
                            refine r_iast (ws' := [(h0, .inr (12, [.int i0, .ref b1, .int i2, .int i3, .int i4, .int i5, .ref b6, .ref b7, .ref b8, .ref b9, .ref b10, .ref b11, .ref b12, .ref b13, .ref b14, .ref b15, .ref b16, .ref b17, .int i18, .int i19, .int i20, .ref b21, .ref b22, .ref b23, .ref b24, .ref b25, .ref b26, .int i27, .ref b28, .ref b29, .ref b30, .ref b31, .ref b32, .ref b33, .ref b34, .ref b35, .ref b36, .int i37, .int i38, .int i39, .int i40, .int i41, .int i42, .int i43, .int i44, .int i45, .ref b46, .ref b47, .ref b48, .ref b49, .ref b50, .ref b51, .ref b52, .ref b53, .ref b54, .ref b55, .ref b56, .ref b57, .ref b58, .ref b59, .ref b60, .ref b61, .ref b62, .ref b63])), (b6, .inl (g.2.1 1, 11, .inl P)), (b7, .inl (g.2.1 1, 11, .inl Lc)), (b12, .inl (g.2.1 1, 132, .inl La)), (b13, .inl (g.2.1 1, 132, .inl Lb)), (b48, .inl (g.2.1 3, 12, .inl lw)), (b46, .inl (g.2.1 1, 112, .inl G3)), (b47, .inl (g.2.1 1, 16, .inl f50))]) X hW 7 rfl (vp_in_nI (by omega) (by decide)) ef50 rfl dX12_gossips_259 (fun H locs hW => ?_)
                            have hg_f50 : gb16 f50 := by rw [← ef50]; exact gb16_upd hgr (by omega)
                            refine lv_aload_n (pc := 260) hx hb dX12_gossips_260 rfl (lv_at hl 0 rfl) ?_
                            refine lv_iload_n (pc := 261) hx hb dX12_gossips_261 rfl (lv_at hl 1 rfl) ?_
                            refine lv_iload_n (pc := 262) hx hb dX12_gossips_262 rfl (lv_at hl 2 rfl) ?_
                            refine lv_iconst (v := 1) (pc := 263) hx hb dX12_gossips_263 (by decide) ?_
                            refine lv_iadd (pc := 264) hx hb dX12_gossips_264 ?_
                            refine lv_topi (fun uv51 euv51 => ?_)
                            obtain rfl : uv51 = nI (dn + 1) := euv51.trans (nI_1 _)
                            refine lv_iload_n (pc := 265) hx hb dX12_gossips_265 rfl (lv_at hl 3 rfl) ?_
                            refine lv_iconst (v := 1) (pc := 266) hx hb dX12_gossips_266 (by decide) ?_
                            refine lv_isub (pc := 267) hx hb dX12_gossips_267 ?_
                            refine lv_topi (fun uv52 euv52 => ?_)
                            obtain rfl : uv52 = 6 := euv52.trans (by decide +kernel)
                            refine c_Vi (pc := 268) (As := [.int (nI v), .int (nI (dn + 1)), .int 6]) (rest := []) (wr := []) X hW 0 ciX12 rfl (C_X12_gossips_6 l g h0 b1 b6 b7 b8 b9 b10 b11 b12 b13 b14 b15 b16 b17 b21 b22 b23 b24 b25 b26 b28 b29 b30 b31 b32 b33 b34 b35 b36 b46 b47 b48 b49 b50 b51 b52 b53 b54 b55 b56 b57 b58 b59 b60 b61 b62 b63 i0 i2 i3 i4 i5 i18 i19 i20 i27 i37 i38 i39 i40 i41 i42 i43 i44 i45 P Lc La Lb lw G3 f50 v lc pp (dn + 1) hv hlc hpp hP hLc hLA hLB hg_f50 (by omega)) vX12_346 [0, 1, 2, 3, 4, 5, 6, 7] [] rfl rfl rfl rfl rfl rfl hl.1 rfl (Nat.le_of_ble_eq_true rfl) ⟨Nat.le_of_ble_eq_true rfl, Nat.le_of_ble_eq_true rfl⟩ ⟨Nat.le_of_ble_eq_true rfl, Nat.le_of_ble_eq_true rfl⟩ dX12_gossips_268 (fun r55 u9 H locs hq hW => ?_)
                            obtain ⟨gq53, gw54, -, hq1_gq53, hq2_gq53, hgw54, rfl⟩ := hq
                            have hW : WD g A s _ _ [(h0, .inr (12, [.int i0, .ref b1, .int i2, .int i3, .int i4, .int i5, .ref b6, .ref b7, .ref b8, .ref b9, .ref b10, .ref b11, .ref b12, .ref b13, .ref b14, .ref b15, .ref b16, .ref b17, .int i18, .int i19, .int i20, .ref b21, .ref b22, .ref b23, .ref b24, .ref b25, .ref b26, .int i27, .ref b28, .ref b29, .ref b30, .ref b31, .ref b32, .ref b33, .ref b34, .ref b35, .ref b36, .int i37, .int i38, .int i39, .int i40, .int i41, .int i42, .int i43, .int i44, .int i45, .ref b46, .ref b47, .ref b48, .ref b49, .ref b50, .ref b51, .ref b52, .ref b53, .ref b54, .ref b55, .ref b56, .ref b57, .ref b58, .ref b59, .ref b60, .ref b61, .ref b62, .ref b63])), (b6, .inl (g.2.1 1, 11, .inl P)), (b7, .inl (g.2.1 1, 11, .inl Lc)), (b12, .inl (g.2.1 1, 132, .inl La)), (b13, .inl (g.2.1 1, 132, .inl Lb)), (b48, .inl (g.2.1 3, 12, .inl lw)), (b46, .inl (g.2.1 1, 112, .inl gq53)), (b47, .inl (g.2.1 1, 16, .inl gw54))] := hW
                            refine lv_if_eq (tgt := 276) (pc := 271) hx hb dX12_gossips_271 rfl (fun c56 => ?_) (fun c56 => ?_)
                            · refine lv_iinc (v := nI (i + 1)) (lv' := [(6, .int (nI (i + 1))), (0, .ref h0), (1, .int (nI v)), (2, .int (nI dn)), (3, .int 7), (4, .int (nI (7 * dn))), (5, .int 0), (7, .int (nI (12 * v + i))), (8, .int (G (7 * dn + ea) ||| G (7 * dn + eb))), (9, .int (nI y))]) (pc := 276) hx hb dX12_gossips_276 hl (k := 6) rfl ((nI_succ i).symm) (by decide) rfl (fun ls hl => ?_)
                              refine lv_goto (tgt := 74) (pc := 279) hx hb dX12_gossips_279 rfl ?_
                              have hW : WD g A s _ _ [(h0, .inr (12, [.int i0, .ref b1, .int i2, .int i3, .int i4, .int i5, .ref b6, .ref b7, .ref b8, .ref b9, .ref b10, .ref b11, .ref b12, .ref b13, .ref b14, .ref b15, .ref b16, .ref b17, .int i18, .int i19, .int i20, .ref b21, .ref b22, .ref b23, .ref b24, .ref b25, .ref b26, .int i27, .ref b28, .ref b29, .ref b30, .ref b31, .ref b32, .ref b33, .ref b34, .ref b35, .ref b36, .int i37, .int i38, .int i39, .int i40, .int i41, .int i42, .int i43, .int i44, .int i45, .ref b46, .ref b47, .ref b48, .ref b49, .ref b50, .ref b51, .ref b52, .ref b53, .ref b54, .ref b55, .ref b56, .ref b57, .ref b58, .ref b59, .ref b60, .ref b61, .ref b62, .ref b63])), (b6, .inl (g.2.1 1, 11, .inl P)), (b7, .inl (g.2.1 1, 11, .inl Lc)), (b12, .inl (g.2.1 1, 132, .inl La)), (b13, .inl (g.2.1 1, 132, .inl Lb)), (b48, .inl (g.2.1 3, 12, .inl lw)), (b46, .inl (g.2.1 1, 112, .inl gq53)), (b47, .inl (g.2.1 1, 16, .inl gw54))] := hW.pick [0, 1, 2, 3, 4, 5, 6, 7] rfl rfl
                              exact ih2 (i + 1) gq53 gw54 (by omega) (by omega) (fun x hx => (hq2_gq53 x (by omega)).trans (hG3 x hx)) hgw54 (gno_s hno (by omega) hea heb eA eB (fun ha9 hb9 hw9 hu9 => fun hg9 => absurd (hq1_gq53 (gok_cong hg9 (fun o ho => (hC o ho).symm))) (by rw [c56]; decide))) _ _ _ hW (lv_sub hl [1, 2, 3, 4, 5, 6, 0] rfl)
                            · refine lv_iconst (v := 1) (pc := 274) hx hb dX12_gossips_274 (by decide) ?_
                              exact e_z X hQ hr hW (u := [(h0, .inr (12, [.int i0, .ref b1, .int i2, .int i3, .int i4, .int i5, .ref b6, .ref b7, .ref b8, .ref b9, .ref b10, .ref b11, .ref b12, .ref b13, .ref b14, .ref b15, .ref b16, .ref b17, .int i18, .int i19, .int i20, .ref b21, .ref b22, .ref b23, .ref b24, .ref b25, .ref b26, .int i27, .ref b28, .ref b29, .ref b30, .ref b31, .ref b32, .ref b33, .ref b34, .ref b35, .ref b36, .int i37, .int i38, .int i39, .int i40, .int i41, .int i42, .int i43, .int i44, .int i45, .ref b46, .ref b47, .ref b48, .ref b49, .ref b50, .ref b51, .ref b52, .ref b53, .ref b54, .ref b55, .ref b56, .ref b57, .ref b58, .ref b59, .ref b60, .ref b61, .ref b62, .ref b63])), (b6, .inl (g.2.1 1, 11, .inl P)), (b7, .inl (g.2.1 1, 11, .inl Lc)), (b12, .inl (g.2.1 1, 132, .inl La)), (b13, .inl (g.2.1 1, 132, .inl Lb)), (b48, .inl (g.2.1 3, 12, .inl lw)), (b46, .inl (g.2.1 1, 112, .inl gq53)), (b47, .inl (g.2.1 1, 16, .inl gw54))]) rfl [0, 1, 2, 3, 4, 5, 6, 7] rfl rfl (⟨_, _, Or.inr rfl, fun _ => rfl, fun x hx => (hq2_gq53 x (by omega)).trans (hG3 x hx), hgw54, rfl⟩) ⟨Nat.le_of_ble_eq_true rfl, Nat.le_of_ble_eq_true rfl⟩ dX12_gossips_275
                          · have hyl : y < pp := ge_f (by omega) (by omega) c49
                            refine lv_aload_n (pc := 194) hx hb dX12_gossips_194 rfl (lv_at hl 0 rfl) ?_
                            refine r_get X hW 0 ciX12 46 rfl (by decide) m_1273 rfl rfl dX12_gossips_195 ?_
                            refine lv_iload (pc := 198) hx hb dX12_gossips_198 (lv_at hl 4 rfl) ?_
                            refine lv_bipush (v := 7) (pc := 200) hx hb dX12_gossips_200 (by decide) ?_
                            refine lv_iadd (pc := 202) hx hb dX12_gossips_202 ?_
                            refine lv_topi (fun uv57 euv57 => ?_)
                            obtain rfl : uv57 = nI (7 * dn + 7) := euv57.trans (nI_add _ _)
                            refine lv_iload (pc := 203) hx hb dX12_gossips_203 (lv_at hl 9 rfl) ?_
                            refine lv_iadd (pc := 205) hx hb dX12_gossips_205 ?_
                            refine lv_topi (fun uv58 euv58 => ?_)
                            obtain rfl : uv58 = nI (7 * dn + 7 + y) := euv58.trans (nI_add _ _)
                            refine lv_iload (pc := 206) hx hb dX12_gossips_206 (lv_at hl 9 rfl) ?_
                            refine lv_aload_n (pc := 208) hx hb dX12_gossips_208 rfl (lv_at hl 0 rfl) ?_
                            refine r_get X hW 0 ciX12 12 rfl (by decide) m_1243 rfl rfl dX12_gossips_209 ?_
                            refine lv_iload (pc := 212) hx hb dX12_gossips_212 (lv_at hl 7 rfl) ?_
                            refine r_iald X hW 3 rfl (vp_in_nI (by omega) (by decide)) dX12_gossips_214 ?_
                            refine lv_topi (fun uv59 euv59 => ?_)
                            obtain rfl : uv59 = nI ea := euv59.trans (by rw [nI_clamp (by omega)]; exact eA)
                            refine lv_icmp_eq (tgt := 230) (pc := 215) hx hb dX12_gossips_215 rfl (fun c60 => ?_) (fun c60 => ?_)
                            · refine lv_iload (pc := 230) hx hb dX12_gossips_230 (lv_at hl 8 rfl) ?_
                              refine lv_goto (tgt := 245) (pc := 232) hx hb dX12_gossips_232 rfl ?_
                              obtain ⟨f61, ef61⟩ : ∃ fz : Nat → Int32, upd G3 (nI (7 * dn + 7 + y)).toNatClampNeg (G (7 * dn + ea) ||| G (7 * dn + eb)) = fz := ⟨_, rfl⟩
                              refine r_iast (ws' := [(h0, .inr (12, [.int i0, .ref b1, .int i2, .int i3, .int i4, .int i5, .ref b6, .ref b7, .ref b8, .ref b9, .ref b10, .ref b11, .ref b12, .ref b13, .ref b14, .ref b15, .ref b16, .ref b17, .int i18, .int i19, .int i20, .ref b21, .ref b22, .ref b23, .ref b24, .ref b25, .ref b26, .int i27, .ref b28, .ref b29, .ref b30, .ref b31, .ref b32, .ref b33, .ref b34, .ref b35, .ref b36, .int i37, .int i38, .int i39, .int i40, .int i41, .int i42, .int i43, .int i44, .int i45, .ref b46, .ref b47, .ref b48, .ref b49, .ref b50, .ref b51, .ref b52, .ref b53, .ref b54, .ref b55, .ref b56, .ref b57, .ref b58, .ref b59, .ref b60, .ref b61, .ref b62, .ref b63])), (b6, .inl (g.2.1 1, 11, .inl P)), (b7, .inl (g.2.1 1, 11, .inl Lc)), (b12, .inl (g.2.1 1, 132, .inl La)), (b13, .inl (g.2.1 1, 132, .inl Lb)), (b48, .inl (g.2.1 3, 12, .inl lw)), (b46, .inl (g.2.1 1, 112, .inl f61)), (b47, .inl (g.2.1 1, 16, .inl gr))]) X hW 6 rfl (vp_in_nI (by omega) (by decide)) ef61 rfl dX12_gossips_245 (fun H locs hW => ?_)
                              refine lv_iinc (v := nI (y + 1)) (lv' := [(9, .int (nI (y + 1))), (0, .ref h0), (1, .int (nI v)), (2, .int (nI dn)), (3, .int 7), (4, .int (nI (7 * dn))), (5, .int 0), (6, .int (nI i)), (7, .int (nI (12 * v + i))), (8, .int (G (7 * dn + ea) ||| G (7 * dn + eb)))]) (pc := 246) hx hb dX12_gossips_246 hl (k := 9) rfl ((nI_succ y).symm) (by decide) rfl (fun ls hl => ?_)
                              refine lv_goto (tgt := 183) (pc := 249) hx hb dX12_gossips_249 rfl ?_
                              have hW : WD g A s _ _ [(h0, .inr (12, [.int i0, .ref b1, .int i2, .int i3, .int i4, .int i5, .ref b6, .ref b7, .ref b8, .ref b9, .ref b10, .ref b11, .ref b12, .ref b13, .ref b14, .ref b15, .ref b16, .ref b17, .int i18, .int i19, .int i20, .ref b21, .ref b22, .ref b23, .ref b24, .ref b25, .ref b26, .int i27, .ref b28, .ref b29, .ref b30, .ref b31, .ref b32, .ref b33, .ref b34, .ref b35, .ref b36, .int i37, .int i38, .int i39, .int i40, .int i41, .int i42, .int i43, .int i44, .int i45, .ref b46, .ref b47, .ref b48, .ref b49, .ref b50, .ref b51, .ref b52, .ref b53, .ref b54, .ref b55, .ref b56, .ref b57, .ref b58, .ref b59, .ref b60, .ref b61, .ref b62, .ref b63])), (b6, .inl (g.2.1 1, 11, .inl P)), (b7, .inl (g.2.1 1, 11, .inl Lc)), (b12, .inl (g.2.1 1, 132, .inl La)), (b13, .inl (g.2.1 1, 132, .inl Lb)), (b48, .inl (g.2.1 3, 12, .inl lw)), (b46, .inl (g.2.1 1, 112, .inl f61)), (b47, .inl (g.2.1 1, 16, .inl gr))] := hW.pick [0, 1, 2, 3, 4, 5, 6, 7] rfl rfl
                              exact ih3 (y + 1) f61 (by omega) (by omega) (fun x hx => by
                                  rw [← ef61, nI_clamp (by omega)]
                                  simp only [upd, show ¬ x = 7 * dn + 7 + y by omega, if_false]
                                  exact hG3 x hx) (fun z hz => by
                                  rw [← ef61, nI_clamp (by omega)]
                                  by_cases e9 : z = y
                                  · subst e9; simp only [upd, if_true]; rw [gaft, if_pos (Or.inl (nI_inj6 (by omega) (by omega) c60))]; rfl
                                  · simp only [upd, show ¬ 7 * dn + 7 + z = 7 * dn + 7 + y by omega, if_false]; exact hC z (by omega)) _ _ _ hW (lv_sub hl [1, 2, 3, 4, 5, 6, 7, 8, 9, 0] rfl)
                            · refine lv_iload (pc := 218) hx hb dX12_gossips_218 (lv_at hl 9 rfl) ?_
                              refine lv_aload_n (pc := 220) hx hb dX12_gossips_220 rfl (lv_at hl 0 rfl) ?_
                              refine r_get X hW 0 ciX12 13 rfl (by decide) m_1244 rfl rfl dX12_gossips_221 ?_
                              refine lv_iload (pc := 224) hx hb dX12_gossips_224 (lv_at hl 7 rfl) ?_
                              refine r_iald X hW 4 rfl (vp_in_nI (by omega) (by decide)) dX12_gossips_226 ?_
                              refine lv_topi (fun uv62 euv62 => ?_)
                              obtain rfl : uv62 = nI eb := euv62.trans (by rw [nI_clamp (by omega)]; exact eB)
                              refine lv_icmp_ne (tgt := 235) (pc := 227) hx hb dX12_gossips_227 rfl (fun c63 => ?_) (fun c63 => ?_)
                              · refine lv_aload_n (pc := 235) hx hb dX12_gossips_235 rfl (lv_at hl 0 rfl) ?_
                                refine r_get X hW 0 ciX12 46 rfl (by decide) m_1273 rfl rfl dX12_gossips_236 ?_
                                refine lv_iload (pc := 239) hx hb dX12_gossips_239 (lv_at hl 4 rfl) ?_
                                refine lv_iload (pc := 241) hx hb dX12_gossips_241 (lv_at hl 9 rfl) ?_
                                refine lv_iadd (pc := 243) hx hb dX12_gossips_243 ?_
                                refine lv_topi (fun uv64 euv64 => ?_)
                                obtain rfl : uv64 = nI (7 * dn + y) := euv64.trans (nI_add _ _)
                                refine r_iald X hW 6 rfl (vp_in_nI (by omega) (by decide)) dX12_gossips_244 ?_
                                refine lv_topi (fun uv65 euv65 => ?_)
                                obtain rfl : uv65 = G (7 * dn + y) := euv65.trans (by rw [nI_clamp (by omega)]; exact hG3 _ (by omega))
                                obtain ⟨f66, ef66⟩ : ∃ fz : Nat → Int32, upd G3 (nI (7 * dn + 7 + y)).toNatClampNeg (G (7 * dn + y)) = fz := ⟨_, rfl⟩
                                refine r_iast (ws' := [(h0, .inr (12, [.int i0, .ref b1, .int i2, .int i3, .int i4, .int i5, .ref b6, .ref b7, .ref b8, .ref b9, .ref b10, .ref b11, .ref b12, .ref b13, .ref b14, .ref b15, .ref b16, .ref b17, .int i18, .int i19, .int i20, .ref b21, .ref b22, .ref b23, .ref b24, .ref b25, .ref b26, .int i27, .ref b28, .ref b29, .ref b30, .ref b31, .ref b32, .ref b33, .ref b34, .ref b35, .ref b36, .int i37, .int i38, .int i39, .int i40, .int i41, .int i42, .int i43, .int i44, .int i45, .ref b46, .ref b47, .ref b48, .ref b49, .ref b50, .ref b51, .ref b52, .ref b53, .ref b54, .ref b55, .ref b56, .ref b57, .ref b58, .ref b59, .ref b60, .ref b61, .ref b62, .ref b63])), (b6, .inl (g.2.1 1, 11, .inl P)), (b7, .inl (g.2.1 1, 11, .inl Lc)), (b12, .inl (g.2.1 1, 132, .inl La)), (b13, .inl (g.2.1 1, 132, .inl Lb)), (b48, .inl (g.2.1 3, 12, .inl lw)), (b46, .inl (g.2.1 1, 112, .inl f66)), (b47, .inl (g.2.1 1, 16, .inl gr))]) X hW 6 rfl (vp_in_nI (by omega) (by decide)) ef66 rfl dX12_gossips_245 (fun H locs hW => ?_)
                                refine lv_iinc (v := nI (y + 1)) (lv' := [(9, .int (nI (y + 1))), (0, .ref h0), (1, .int (nI v)), (2, .int (nI dn)), (3, .int 7), (4, .int (nI (7 * dn))), (5, .int 0), (6, .int (nI i)), (7, .int (nI (12 * v + i))), (8, .int (G (7 * dn + ea) ||| G (7 * dn + eb)))]) (pc := 246) hx hb dX12_gossips_246 hl (k := 9) rfl ((nI_succ y).symm) (by decide) rfl (fun ls hl => ?_)
                                refine lv_goto (tgt := 183) (pc := 249) hx hb dX12_gossips_249 rfl ?_
                                have hW : WD g A s _ _ [(h0, .inr (12, [.int i0, .ref b1, .int i2, .int i3, .int i4, .int i5, .ref b6, .ref b7, .ref b8, .ref b9, .ref b10, .ref b11, .ref b12, .ref b13, .ref b14, .ref b15, .ref b16, .ref b17, .int i18, .int i19, .int i20, .ref b21, .ref b22, .ref b23, .ref b24, .ref b25, .ref b26, .int i27, .ref b28, .ref b29, .ref b30, .ref b31, .ref b32, .ref b33, .ref b34, .ref b35, .ref b36, .int i37, .int i38, .int i39, .int i40, .int i41, .int i42, .int i43, .int i44, .int i45, .ref b46, .ref b47, .ref b48, .ref b49, .ref b50, .ref b51, .ref b52, .ref b53, .ref b54, .ref b55, .ref b56, .ref b57, .ref b58, .ref b59, .ref b60, .ref b61, .ref b62, .ref b63])), (b6, .inl (g.2.1 1, 11, .inl P)), (b7, .inl (g.2.1 1, 11, .inl Lc)), (b12, .inl (g.2.1 1, 132, .inl La)), (b13, .inl (g.2.1 1, 132, .inl Lb)), (b48, .inl (g.2.1 3, 12, .inl lw)), (b46, .inl (g.2.1 1, 112, .inl f66)), (b47, .inl (g.2.1 1, 16, .inl gr))] := hW.pick [0, 1, 2, 3, 4, 5, 6, 7] rfl rfl
                                exact ih3 (y + 1) f66 (by omega) (by omega) (fun x hx => by
                                    rw [← ef66, nI_clamp (by omega)]
                                    simp only [upd, show ¬ x = 7 * dn + 7 + y by omega, if_false]
                                    exact hG3 x hx) (fun z hz => by
                                    rw [← ef66, nI_clamp (by omega)]
                                    by_cases e9 : z = y
                                    · subst e9; simp only [upd, if_true]; rw [gaft, if_neg (fun q => q.elim (fun r => c60 (congrArg nI r)) (fun r => c63 (congrArg nI r)))]; rfl
                                    · simp only [upd, show ¬ 7 * dn + 7 + z = 7 * dn + 7 + y by omega, if_false]; exact hC z (by omega)) _ _ _ hW (lv_sub hl [1, 2, 3, 4, 5, 6, 7, 8, 9, 0] rfl)
                              · refine lv_iload (pc := 230) hx hb dX12_gossips_230 (lv_at hl 8 rfl) ?_
                                refine lv_goto (tgt := 245) (pc := 232) hx hb dX12_gossips_232 rfl ?_
                                obtain ⟨f67, ef67⟩ : ∃ fz : Nat → Int32, upd G3 (nI (7 * dn + 7 + y)).toNatClampNeg (G (7 * dn + ea) ||| G (7 * dn + eb)) = fz := ⟨_, rfl⟩
                                refine r_iast (ws' := [(h0, .inr (12, [.int i0, .ref b1, .int i2, .int i3, .int i4, .int i5, .ref b6, .ref b7, .ref b8, .ref b9, .ref b10, .ref b11, .ref b12, .ref b13, .ref b14, .ref b15, .ref b16, .ref b17, .int i18, .int i19, .int i20, .ref b21, .ref b22, .ref b23, .ref b24, .ref b25, .ref b26, .int i27, .ref b28, .ref b29, .ref b30, .ref b31, .ref b32, .ref b33, .ref b34, .ref b35, .ref b36, .int i37, .int i38, .int i39, .int i40, .int i41, .int i42, .int i43, .int i44, .int i45, .ref b46, .ref b47, .ref b48, .ref b49, .ref b50, .ref b51, .ref b52, .ref b53, .ref b54, .ref b55, .ref b56, .ref b57, .ref b58, .ref b59, .ref b60, .ref b61, .ref b62, .ref b63])), (b6, .inl (g.2.1 1, 11, .inl P)), (b7, .inl (g.2.1 1, 11, .inl Lc)), (b12, .inl (g.2.1 1, 132, .inl La)), (b13, .inl (g.2.1 1, 132, .inl Lb)), (b48, .inl (g.2.1 3, 12, .inl lw)), (b46, .inl (g.2.1 1, 112, .inl f67)), (b47, .inl (g.2.1 1, 16, .inl gr))]) X hW 6 rfl (vp_in_nI (by omega) (by decide)) ef67 rfl dX12_gossips_245 (fun H locs hW => ?_)
                                refine lv_iinc (v := nI (y + 1)) (lv' := [(9, .int (nI (y + 1))), (0, .ref h0), (1, .int (nI v)), (2, .int (nI dn)), (3, .int 7), (4, .int (nI (7 * dn))), (5, .int 0), (6, .int (nI i)), (7, .int (nI (12 * v + i))), (8, .int (G (7 * dn + ea) ||| G (7 * dn + eb)))]) (pc := 246) hx hb dX12_gossips_246 hl (k := 9) rfl ((nI_succ y).symm) (by decide) rfl (fun ls hl => ?_)
                                refine lv_goto (tgt := 183) (pc := 249) hx hb dX12_gossips_249 rfl ?_
                                have hW : WD g A s _ _ [(h0, .inr (12, [.int i0, .ref b1, .int i2, .int i3, .int i4, .int i5, .ref b6, .ref b7, .ref b8, .ref b9, .ref b10, .ref b11, .ref b12, .ref b13, .ref b14, .ref b15, .ref b16, .ref b17, .int i18, .int i19, .int i20, .ref b21, .ref b22, .ref b23, .ref b24, .ref b25, .ref b26, .int i27, .ref b28, .ref b29, .ref b30, .ref b31, .ref b32, .ref b33, .ref b34, .ref b35, .ref b36, .int i37, .int i38, .int i39, .int i40, .int i41, .int i42, .int i43, .int i44, .int i45, .ref b46, .ref b47, .ref b48, .ref b49, .ref b50, .ref b51, .ref b52, .ref b53, .ref b54, .ref b55, .ref b56, .ref b57, .ref b58, .ref b59, .ref b60, .ref b61, .ref b62, .ref b63])), (b6, .inl (g.2.1 1, 11, .inl P)), (b7, .inl (g.2.1 1, 11, .inl Lc)), (b12, .inl (g.2.1 1, 132, .inl La)), (b13, .inl (g.2.1 1, 132, .inl Lb)), (b48, .inl (g.2.1 3, 12, .inl lw)), (b46, .inl (g.2.1 1, 112, .inl f67)), (b47, .inl (g.2.1 1, 16, .inl gr))] := hW.pick [0, 1, 2, 3, 4, 5, 6, 7] rfl rfl
                                exact ih3 (y + 1) f67 (by omega) (by omega) (fun x hx => by
                                    rw [← ef67, nI_clamp (by omega)]
                                    simp only [upd, show ¬ x = 7 * dn + 7 + y by omega, if_false]
                                    exact hG3 x hx) (fun z hz => by
                                    rw [← ef67, nI_clamp (by omega)]
                                    by_cases e9 : z = y
                                    · subst e9; simp only [upd, if_true]; rw [gaft, if_pos (Or.inr (nI_inj6 (by omega) (by omega) c63))]; rfl
                                    · simp only [upd, show ¬ 7 * dn + 7 + z = 7 * dn + 7 + y by omega, if_false]; exact hC z (by omega)) _ _ _ hW (lv_sub hl [1, 2, 3, 4, 5, 6, 7, 8, 9, 0] rfl)
                      exact loop3 (pp + 1) 0 G2 (by omega) (Nat.zero_le _) hG2 (fun z hz => absurd hz (Nat.not_lt_zero z)) _ _ _ hW (lv_sub hl [3, 4, 5, 6, 7, 8, 9, 2, 1, 0] rfl)
                    · refine lv_goto (tgt := 276) (pc := 177) hx hb dX12_gossips_177 rfl ?_
                      refine lv_iinc (v := nI (i + 1)) (lv' := [(6, .int (nI (i + 1))), (8, .int (G (7 * dn + ea) ||| G (7 * dn + eb))), (7, .int (nI (12 * v + i))), (0, .ref h0), (1, .int (nI v)), (2, .int (nI dn)), (3, .int 7), (4, .int (nI (7 * dn))), (5, .int 0)]) (pc := 276) hx hb dX12_gossips_276 hl (k := 8) rfl ((nI_succ i).symm) (by decide) rfl (fun ls hl => ?_)
                      refine lv_goto (tgt := 74) (pc := 279) hx hb dX12_gossips_279 rfl ?_
                      have hW : WD g A s _ _ [(h0, .inr (12, [.int i0, .ref b1, .int i2, .int i3, .int i4, .int i5, .ref b6, .ref b7, .ref b8, .ref b9, .ref b10, .ref b11, .ref b12, .ref b13, .ref b14, .ref b15, .ref b16, .ref b17, .int i18, .int i19, .int i20, .ref b21, .ref b22, .ref b23, .ref b24, .ref b25, .ref b26, .int i27, .ref b28, .ref b29, .ref b30, .ref b31, .ref b32, .ref b33, .ref b34, .ref b35, .ref b36, .int i37, .int i38, .int i39, .int i40, .int i41, .int i42, .int i43, .int i44, .int i45, .ref b46, .ref b47, .ref b48, .ref b49, .ref b50, .ref b51, .ref b52, .ref b53, .ref b54, .ref b55, .ref b56, .ref b57, .ref b58, .ref b59, .ref b60, .ref b61, .ref b62, .ref b63])), (b6, .inl (g.2.1 1, 11, .inl P)), (b7, .inl (g.2.1 1, 11, .inl Lc)), (b12, .inl (g.2.1 1, 132, .inl La)), (b13, .inl (g.2.1 1, 132, .inl Lb)), (b48, .inl (g.2.1 3, 12, .inl lw)), (b46, .inl (g.2.1 1, 112, .inl G2)), (b47, .inl (g.2.1 1, 16, .inl gr))] := hW.pick [0, 1, 2, 3, 4, 5, 6, 7] rfl rfl
                      exact ih2 (i + 1) G2 gr (by omega) (by omega) (hG2) hgr (gno_s hno (by omega) hea heb eA eB (fun ha9 hb9 hw9 hu9 => absurd ⟨h_eA, c47⟩ hu9)) _ _ _ hW (lv_sub hl [3, 4, 5, 6, 7, 8, 0] rfl)
          exact loop2 (lc + 1) 0 G gr0 (by omega) (Nat.zero_le _) (fun x hx => rfl) hg0 gno_0 _ _ _ hW (lv_sub hl [1, 2, 3, 4, 5, 6, 0] rfl)
      · have hkl : k < pp := ge_f (by omega) (by omega) c3
        refine lv_iload (pc := 23) hx hb dX12_gossips_23 (lv_at hl 5 rfl) ?_
        refine lv_if_eq (tgt := 50) (pc := 25) hx hb dX12_gossips_25 rfl (fun c68 => ?_) (fun c68 => ?_)
        · refine lv_iconst (v := 0) (pc := 50) hx hb dX12_gossips_50 (by decide) ?_
          refine lv_istore (lv' := [(5, .int 0), (0, .ref h0), (1, .int (nI v)), (2, .int (nI dn)), (3, .int 7), (4, .int (nI (7 * dn))), (6, .int (nI k))]) (pc := 51) hx hb dX12_gossips_51 hl (by decide) rfl (fun ls hl => ?_)
          refine lv_iinc (v := nI (k + 1)) (lv' := [(6, .int (nI (k + 1))), (5, .int 0), (0, .ref h0), (1, .int (nI v)), (2, .int (nI dn)), (3, .int 7), (4, .int (nI (7 * dn)))]) (pc := 53) hx hb dX12_gossips_53 hl (k := 6) rfl ((nI_succ k).symm) (by decide) rfl (fun ls hl => ?_)
          refine lv_goto (tgt := 12) (pc := 56) hx hb dX12_gossips_56 rfl ?_
          have hW : WD g A s _ _ [(h0, .inr (12, [.int i0, .ref b1, .int i2, .int i3, .int i4, .int i5, .ref b6, .ref b7, .ref b8, .ref b9, .ref b10, .ref b11, .ref b12, .ref b13, .ref b14, .ref b15, .ref b16, .ref b17, .int i18, .int i19, .int i20, .ref b21, .ref b22, .ref b23, .ref b24, .ref b25, .ref b26, .int i27, .ref b28, .ref b29, .ref b30, .ref b31, .ref b32, .ref b33, .ref b34, .ref b35, .ref b36, .int i37, .int i38, .int i39, .int i40, .int i41, .int i42, .int i43, .int i44, .int i45, .ref b46, .ref b47, .ref b48, .ref b49, .ref b50, .ref b51, .ref b52, .ref b53, .ref b54, .ref b55, .ref b56, .ref b57, .ref b58, .ref b59, .ref b60, .ref b61, .ref b62, .ref b63])), (b6, .inl (g.2.1 1, 11, .inl P)), (b7, .inl (g.2.1 1, 11, .inl Lc)), (b12, .inl (g.2.1 1, 132, .inl La)), (b13, .inl (g.2.1 1, 132, .inl Lb)), (b48, .inl (g.2.1 3, 12, .inl lw)), (b46, .inl (g.2.1 1, 112, .inl G)), (b47, .inl (g.2.1 1, 16, .inl gr0))] := hW.pick [0, 1, 2, 3, 4, 5, 6, 7] rfl rfl
          exact ih1 (k + 1) 0 (by omega) (by omega) (Or.inr ⟨rfl, (hal.resolve_left (fun r => absurd (r.1.symm.trans c68) (by decide))).2⟩) _ _ _ hW (lv_sub hl [2, 3, 4, 5, 6, 1, 0] rfl)
        · have hal9 : ¬ al = 0 := c68
          have hal1 : ¬ al = 0 → ∀ o : Nat, o < k → (rwt G dn) o = evy (nI pp) := fun q => (hal.resolve_right (fun r => q r.1)).2
          refine lv_aload_n (pc := 28) hx hb dX12_gossips_28 rfl (lv_at hl 0 rfl) ?_
          refine r_get X hW 0 ciX12 46 rfl (by decide) m_1273 rfl rfl dX12_gossips_29 ?_
          refine lv_iload (pc := 32) hx hb dX12_gossips_32 (lv_at hl 4 rfl) ?_
          refine lv_iload (pc := 34) hx hb dX12_gossips_34 (lv_at hl 6 rfl) ?_
          refine lv_iadd (pc := 36) hx hb dX12_gossips_36 ?_
          refine lv_topi (fun uv69 euv69 => ?_)
          obtain rfl : uv69 = nI (7 * dn + k) := euv69.trans (nI_add _ _)
          refine r_iald X hW 6 rfl (vp_in_nI (by omega) (by decide)) dX12_gossips_37 ?_
          refine lv_topi (fun uv70 euv70 => ?_)
          obtain rfl : uv70 = G (7 * dn + k) := euv70.trans (by rw [nI_clamp (by omega)])
          refine lv_aload_n (pc := 38) hx hb dX12_gossips_38 rfl (lv_at hl 0 rfl) ?_
          refine lv_iload_n (pc := 39) hx hb dX12_gossips_39 rfl (lv_at hl 1 rfl) ?_
          refine c_Vi (pc := 40) (As := [.int (nI v)]) (rest := [.int (G (7 * dn + k))]) (wr := [(b7, .inl (g.2.1 1, 11, .inl Lc)), (b12, .inl (g.2.1 1, 132, .inl La)), (b13, .inl (g.2.1 1, 132, .inl Lb)), (b48, .inl (g.2.1 3, 12, .inl lw)), (b46, .inl (g.2.1 1, 112, .inl G)), (b47, .inl (g.2.1 1, 16, .inl gr0))]) X hW 0 ciX12 rfl (C_X12_everybodyG l g h0 b1 b6 b7 b8 b9 b10 b11 b12 b13 b14 b15 b16 b17 b21 b22 b23 b24 b25 b26 b28 b29 b30 b31 b32 b33 b34 b35 b36 b46 b47 b48 b49 b50 b51 b52 b53 b54 b55 b56 b57 b58 b59 b60 b61 b62 b63 i0 i2 i3 i4 i5 i18 i19 i20 i27 i37 i38 i39 i40 i41 i42 i43 i44 i45 P v (by omega)) vX12_274 [0, 1] [2, 3, 4, 5, 6, 7] rfl rfl rfl rfl rfl rfl hl.1 rfl (Nat.le_of_ble_eq_true rfl) ⟨Nat.le_of_ble_eq_true rfl, Nat.le_of_ble_eq_true rfl⟩ ⟨Nat.le_of_ble_eq_true rfl, Nat.le_of_ble_eq_true rfl⟩ dX12_gossips_40 (fun r71 u9 H locs hq hW => ?_)
          obtain ⟨rfl, rfl⟩ := hq
          have hW : WD g A s _ _ [(b7, .inl (g.2.1 1, 11, .inl Lc)), (b12, .inl (g.2.1 1, 132, .inl La)), (b13, .inl (g.2.1 1, 132, .inl Lb)), (b48, .inl (g.2.1 3, 12, .inl lw)), (b46, .inl (g.2.1 1, 112, .inl G)), (b47, .inl (g.2.1 1, 16, .inl gr0)), (h0, .inr (12, [.int i0, .ref b1, .int i2, .int i3, .int i4, .int i5, .ref b6, .ref b7, .ref b8, .ref b9, .ref b10, .ref b11, .ref b12, .ref b13, .ref b14, .ref b15, .ref b16, .ref b17, .int i18, .int i19, .int i20, .ref b21, .ref b22, .ref b23, .ref b24, .ref b25, .ref b26, .int i27, .ref b28, .ref b29, .ref b30, .ref b31, .ref b32, .ref b33, .ref b34, .ref b35, .ref b36, .int i37, .int i38, .int i39, .int i40, .int i41, .int i42, .int i43, .int i44, .int i45, .ref b46, .ref b47, .ref b48, .ref b49, .ref b50, .ref b51, .ref b52, .ref b53, .ref b54, .ref b55, .ref b56, .ref b57, .ref b58, .ref b59, .ref b60, .ref b61, .ref b62, .ref b63])), (b6, .inl (g.2.1 1, 11, .inl P))] := hW
          refine lv_icmp_ne (tgt := 50) (pc := 43) hx hb dX12_gossips_43 rfl (fun c72 => ?_) (fun c72 => ?_)
          · refine lv_iconst (v := 0) (pc := 50) hx hb dX12_gossips_50 (by decide) ?_
            refine lv_istore (lv' := [(5, .int 0), (0, .ref h0), (1, .int (nI v)), (2, .int (nI dn)), (3, .int 7), (4, .int (nI (7 * dn))), (6, .int (nI k))]) (pc := 51) hx hb dX12_gossips_51 hl (by decide) rfl (fun ls hl => ?_)
            refine lv_iinc (v := nI (k + 1)) (lv' := [(6, .int (nI (k + 1))), (5, .int 0), (0, .ref h0), (1, .int (nI v)), (2, .int (nI dn)), (3, .int 7), (4, .int (nI (7 * dn)))]) (pc := 53) hx hb dX12_gossips_53 hl (k := 6) rfl ((nI_succ k).symm) (by decide) rfl (fun ls hl => ?_)
            refine lv_goto (tgt := 12) (pc := 56) hx hb dX12_gossips_56 rfl ?_
            have hW : WD g A s _ _ [(h0, .inr (12, [.int i0, .ref b1, .int i2, .int i3, .int i4, .int i5, .ref b6, .ref b7, .ref b8, .ref b9, .ref b10, .ref b11, .ref b12, .ref b13, .ref b14, .ref b15, .ref b16, .ref b17, .int i18, .int i19, .int i20, .ref b21, .ref b22, .ref b23, .ref b24, .ref b25, .ref b26, .int i27, .ref b28, .ref b29, .ref b30, .ref b31, .ref b32, .ref b33, .ref b34, .ref b35, .ref b36, .int i37, .int i38, .int i39, .int i40, .int i41, .int i42, .int i43, .int i44, .int i45, .ref b46, .ref b47, .ref b48, .ref b49, .ref b50, .ref b51, .ref b52, .ref b53, .ref b54, .ref b55, .ref b56, .ref b57, .ref b58, .ref b59, .ref b60, .ref b61, .ref b62, .ref b63])), (b6, .inl (g.2.1 1, 11, .inl P)), (b7, .inl (g.2.1 1, 11, .inl Lc)), (b12, .inl (g.2.1 1, 132, .inl La)), (b13, .inl (g.2.1 1, 132, .inl Lb)), (b48, .inl (g.2.1 3, 12, .inl lw)), (b46, .inl (g.2.1 1, 112, .inl G)), (b47, .inl (g.2.1 1, 16, .inl gr0))] := hW.pick [6, 7, 0, 1, 2, 3, 4, 5] rfl rfl
            exact ih1 (k + 1) 0 (by omega) (by omega) (Or.inr ⟨rfl, (fun q => c72 (by have := q k hkl; rw [hP]; exact this))⟩) _ _ _ hW (lv_sub hl [2, 3, 4, 5, 6, 1, 0] rfl)
          · refine lv_iconst (v := 1) (pc := 46) hx hb dX12_gossips_46 (by decide) ?_
            refine lv_goto (tgt := 51) (pc := 47) hx hb dX12_gossips_47 rfl ?_
            refine lv_istore (lv' := [(5, .int 1), (0, .ref h0), (1, .int (nI v)), (2, .int (nI dn)), (3, .int 7), (4, .int (nI (7 * dn))), (6, .int (nI k))]) (pc := 51) hx hb dX12_gossips_51 hl (by decide) rfl (fun ls hl => ?_)
            refine lv_iinc (v := nI (k + 1)) (lv' := [(6, .int (nI (k + 1))), (5, .int 1), (0, .ref h0), (1, .int (nI v)), (2, .int (nI dn)), (3, .int 7), (4, .int (nI (7 * dn)))]) (pc := 53) hx hb dX12_gossips_53 hl (k := 6) rfl ((nI_succ k).symm) (by decide) rfl (fun ls hl => ?_)
            refine lv_goto (tgt := 12) (pc := 56) hx hb dX12_gossips_56 rfl ?_
            have hW : WD g A s _ _ [(h0, .inr (12, [.int i0, .ref b1, .int i2, .int i3, .int i4, .int i5, .ref b6, .ref b7, .ref b8, .ref b9, .ref b10, .ref b11, .ref b12, .ref b13, .ref b14, .ref b15, .ref b16, .ref b17, .int i18, .int i19, .int i20, .ref b21, .ref b22, .ref b23, .ref b24, .ref b25, .ref b26, .int i27, .ref b28, .ref b29, .ref b30, .ref b31, .ref b32, .ref b33, .ref b34, .ref b35, .ref b36, .int i37, .int i38, .int i39, .int i40, .int i41, .int i42, .int i43, .int i44, .int i45, .ref b46, .ref b47, .ref b48, .ref b49, .ref b50, .ref b51, .ref b52, .ref b53, .ref b54, .ref b55, .ref b56, .ref b57, .ref b58, .ref b59, .ref b60, .ref b61, .ref b62, .ref b63])), (b6, .inl (g.2.1 1, 11, .inl P)), (b7, .inl (g.2.1 1, 11, .inl Lc)), (b12, .inl (g.2.1 1, 132, .inl La)), (b13, .inl (g.2.1 1, 132, .inl Lb)), (b48, .inl (g.2.1 3, 12, .inl lw)), (b46, .inl (g.2.1 1, 112, .inl G)), (b47, .inl (g.2.1 1, 16, .inl gr0))] := hW.pick [6, 7, 0, 1, 2, 3, 4, 5] rfl rfl
            exact ih1 (k + 1) 1 (by omega) (by omega) (Or.inl ⟨rfl, gall_s (p := pp) (hal1 hal9) (by show G (7 * dn + k) = _; rw [c72, hP])⟩) _ _ _ hW (lv_sub hl [2, 3, 4, 5, 6, 1, 0] rfl)
  exact loop1 (pp + 1) 0 1 (by omega) (Nat.zero_le _) (Or.inl ⟨rfl, fun o ho => absurd ho (Nat.not_lt_zero o)⟩) _ _ _ hW (lv_sub hl [3, 4, 5, 6, 2, 1, 0] rfl)

set_option maxHeartbeats 40000000 in
set_option maxRecDepth 100000 in
theorem C_X12_gossips_8 (l : Launch) (g : GG) (h0 b1 b6 b7 b8 b9 b10 b11 b12 b13 b14 b15 b16 b17 b21 b22 b23 b24 b25 b26 b28 b29 b30 b31 b32 b33 b34 b35 b36 b46 b47 b48 b49 b50 b51 b52 b53 b54 b55 b56 b57 b58 b59 b60 b61 b62 b63 : Nat) (i0 i2 i3 i4 i5 i18 i19 i20 i27 i37 i38 i39 i40 i41 i42 i43 i44 i45 : Int32) (P Lc La Lb lw G gr0 : Nat → Int32) (v lc pp dn : Nat) (hv : v ≤ 10) (hlc : lc ≤ 12) (hpp : pp ≤ 7) (hP : P v = nI pp) (hLc : Lc v = nI lc) (hLA : in6 La) (hLB : in6 Lb) (hg0 : gb16 gr0) (hdn : dn + 8 ≤ 15) : MetI l g yX12_gossips cX12_gossips 10 (some .boolean) 9 0 0 [.ref h0, .int (nI v), .int (nI dn), .int 8] [(h0, .inr (12, [.int i0, .ref b1, .int i2, .int i3, .int i4, .int i5, .ref b6, .ref b7, .ref b8, .ref b9, .ref b10, .ref b11, .ref b12, .ref b13, .ref b14, .ref b15, .ref b16, .ref b17, .int i18, .int i19, .int i20, .ref b21, .ref b22, .ref b23, .ref b24, .ref b25, .ref b26, .int i27, .ref b28, .ref b29, .ref b30, .ref b31, .ref b32, .ref b33, .ref b34, .ref b35, .ref b36, .int i37, .int i38, .int i39, .int i40, .int i41, .int i42, .int i43, .int i44, .int i45, .ref b46, .ref b47, .ref b48, .ref b49, .ref b50, .ref b51, .ref b52, .ref b53, .ref b54, .ref b55, .ref b56, .ref b57, .ref b58, .ref b59, .ref b60, .ref b61, .ref b62, .ref b63])), (b6, .inl (g.2.1 1, 11, .inl P)), (b7, .inl (g.2.1 1, 11, .inl Lc)), (b12, .inl (g.2.1 1, 132, .inl La)), (b13, .inl (g.2.1 1, 132, .inl Lb)), (b48, .inl (g.2.1 3, 12, .inl lw)), (b46, .inl (g.2.1 1, 112, .inl G)), (b47, .inl (g.2.1 1, 16, .inl gr0))] (fun r u => ∃ G' gr' : Nat → Int32, (r = 0 ∨ r = 1) ∧ (gok (gV La Lb lw v lc) pp (evy (nI pp)) 8 (rwt G dn) → r = 1) ∧ (∀ x : Nat, x < 7 * (dn + 1) → G' x = G x) ∧ gb16 gr' ∧ u = [(h0, .inr (12, [.int i0, .ref b1, .int i2, .int i3, .int i4, .int i5, .ref b6, .ref b7, .ref b8, .ref b9, .ref b10, .ref b11, .ref b12, .ref b13, .ref b14, .ref b15, .ref b16, .ref b17, .int i18, .int i19, .int i20, .ref b21, .ref b22, .ref b23, .ref b24, .ref b25, .ref b26, .int i27, .ref b28, .ref b29, .ref b30, .ref b31, .ref b32, .ref b33, .ref b34, .ref b35, .ref b36, .int i37, .int i38, .int i39, .int i40, .int i41, .int i42, .int i43, .int i44, .int i45, .ref b46, .ref b47, .ref b48, .ref b49, .ref b50, .ref b51, .ref b52, .ref b53, .ref b54, .ref b55, .ref b56, .ref b57, .ref b58, .ref b59, .ref b60, .ref b61, .ref b62, .ref b63])), (b6, .inl (g.2.1 1, 11, .inl P)), (b7, .inl (g.2.1 1, 11, .inl Lc)), (b12, .inl (g.2.1 1, 132, .inl La)), (b13, .inl (g.2.1 1, 132, .inl Lb)), (b48, .inl (g.2.1 3, 12, .inl lw)), (b46, .inl (g.2.1 1, 112, .inl G')), (b47, .inl (g.2.1 1, 16, .inl gr'))]) := by
  refine MetI.of (own := RX12) rfl (by decide) (Nat.le_of_ble_eq_true rfl) ?_
  intro p e s m below meth c A ls args Q hQ X hr hin hW hl
  have hx := X.1
  have hb := X.2.1
  have hl : lv_has ls 10 [(0, .ref h0), (1, .int (nI v)), (2, .int (nI dn)), (3, .int 8)] := hl
  refine lv_bipush (v := 7) (pc := 0) hx hb dX12_gossips_0 (by decide) ?_
  refine lv_iload_n (pc := 2) hx hb dX12_gossips_2 rfl (lv_at hl 2 rfl) ?_
  refine lv_imul (pc := 3) hx hb dX12_gossips_3 ?_
  refine lv_topi (fun uv1 euv1 => ?_)
  obtain rfl : uv1 = nI (7 * dn) := euv1.trans (pk_mul _ _)
  refine lv_istore (lv' := [(4, .int (nI (7 * dn))), (0, .ref h0), (1, .int (nI v)), (2, .int (nI dn)), (3, .int 8)]) (pc := 4) hx hb dX12_gossips_4 hl (by decide) rfl (fun ls hl => ?_)
  refine lv_iconst (v := 1) (pc := 6) hx hb dX12_gossips_6 (by decide) ?_
  refine lv_istore (lv' := [(5, .int 1), (4, .int (nI (7 * dn))), (0, .ref h0), (1, .int (nI v)), (2, .int (nI dn)), (3, .int 8)]) (pc := 7) hx hb dX12_gossips_7 hl (by decide) rfl (fun ls hl => ?_)
  refine lv_iconst (v := 0) (pc := 9) hx hb dX12_gossips_9 (by decide) ?_
  refine lv_istore (lv' := [(6, .int 0), (5, .int 1), (4, .int (nI (7 * dn))), (0, .ref h0), (1, .int (nI v)), (2, .int (nI dn)), (3, .int 8)]) (pc := 10) hx hb dX12_gossips_10 hl (by decide) rfl (fun ls hl => ?_)
  have loop1 : ∀ (fu : Nat) (k : Nat) (al : Int32), (pp < fu + k) → (k ≤ pp) → ((al = 1 ∧ ∀ o : Nat, o < k → (rwt G dn) o = evy (nI pp)) ∨ (al = 0 ∧ ¬ gall pp (evy (nI pp)) (rwt G dn))) → ∀ (H : Heap) (locs : List Loc) (ls : Array Slot), WD g A s H locs [(h0, .inr (12, [.int i0, .ref b1, .int i2, .int i3, .int i4, .int i5, .ref b6, .ref b7, .ref b8, .ref b9, .ref b10, .ref b11, .ref b12, .ref b13, .ref b14, .ref b15, .ref b16, .ref b17, .int i18, .int i19, .int i20, .ref b21, .ref b22, .ref b23, .ref b24, .ref b25, .ref b26, .int i27, .ref b28, .ref b29, .ref b30, .ref b31, .ref b32, .ref b33, .ref b34, .ref b35, .ref b36, .int i37, .int i38, .int i39, .int i40, .int i41, .int i42, .int i43, .int i44, .int i45, .ref b46, .ref b47, .ref b48, .ref b49, .ref b50, .ref b51, .ref b52, .ref b53, .ref b54, .ref b55, .ref b56, .ref b57, .ref b58, .ref b59, .ref b60, .ref b61, .ref b62, .ref b63])), (b6, .inl (g.2.1 1, 11, .inl P)), (b7, .inl (g.2.1 1, 11, .inl Lc)), (b12, .inl (g.2.1 1, 132, .inl La)), (b13, .inl (g.2.1 1, 132, .inl Lb)), (b48, .inl (g.2.1 3, 12, .inl lw)), (b46, .inl (g.2.1 1, 112, .inl G)), (b47, .inl (g.2.1 1, 16, .inl gr0))] → lv_has ls 10 [(0, .ref h0), (1, .int (nI v)), (2, .int (nI dn)), (3, .int 8), (4, .int (nI (7 * dn))), (5, .int al), (6, .int (nI k))] → W p l e (RM 9 0 0) s m args below meth c H locs 0 0 Q (F0 m 12 ls []) := by
    intro fu
    induction fu with
    | zero =>
      intro k al hm hk hal
      exact absurd hm (by omega)
    | succ fu ih1 =>
      intro k al hm hk hal H locs ls hW hl
      refine lv_iload (pc := 12) hx hb dX12_gossips_12 (lv_at hl 6 rfl) ?_
      refine lv_aload_n (pc := 14) hx hb dX12_gossips_14 rfl (lv_at hl 0 rfl) ?_
      refine r_get X hW 0 ciX12 6 rfl (by decide) m_1237 rfl rfl dX12_gossips_15 ?_
      refine lv_iload_n (pc := 18) hx hb dX12_gossips_18 rfl (lv_at hl 1 rfl) ?_
      refine r_iald X hW 1 rfl (vp_in_nI (by omega) (by decide)) dX12_gossips_19 ?_
      refine lv_topi (fun uv2 euv2 => ?_)
      obtain rfl : uv2 = nI pp := euv2.trans (by rw [nI_clamp (by omega)]; exact hP)
      refine lv_icmp_ge (tgt := 59) (pc := 20) hx hb dX12_gossips_20 rfl (fun c3 => ?_) (fun c3 => ?_)
      · have hkp : k = pp := Nat.le_antisymm hk (ge_t (by omega) (by omega) c3)
        rw [hkp] at hal
        rcases hal with ⟨ha1, hal⟩ | ⟨ha1, hal⟩
        · subst ha1
          refine lv_iload (pc := 59) hx hb dX12_gossips_59 (lv_at hl 5 rfl) ?_
          refine lv_if_ne (tgt := 68) (pc := 61) hx hb dX12_gossips_61 rfl (fun c4 => ?_) (fun c4 => absurd c4 (by decide))
          refine lv_iload (pc := 68) hx hb dX12_gossips_68 (lv_at hl 5 rfl) ?_
          exact e_z X hQ hr hW (u := [(h0, .inr (12, [.int i0, .ref b1, .int i2, .int i3, .int i4, .int i5, .ref b6, .ref b7, .ref b8, .ref b9, .ref b10, .ref b11, .ref b12, .ref b13, .ref b14, .ref b15, .ref b16, .ref b17, .int i18, .int i19, .int i20, .ref b21, .ref b22, .ref b23, .ref b24, .ref b25, .ref b26, .int i27, .ref b28, .ref b29, .ref b30, .ref b31, .ref b32, .ref b33, .ref b34, .ref b35, .ref b36, .int i37, .int i38, .int i39, .int i40, .int i41, .int i42, .int i43, .int i44, .int i45, .ref b46, .ref b47, .ref b48, .ref b49, .ref b50, .ref b51, .ref b52, .ref b53, .ref b54, .ref b55, .ref b56, .ref b57, .ref b58, .ref b59, .ref b60, .ref b61, .ref b62, .ref b63])), (b6, .inl (g.2.1 1, 11, .inl P)), (b7, .inl (g.2.1 1, 11, .inl Lc)), (b12, .inl (g.2.1 1, 132, .inl La)), (b13, .inl (g.2.1 1, 132, .inl Lb)), (b48, .inl (g.2.1 3, 12, .inl lw)), (b46, .inl (g.2.1 1, 112, .inl G)), (b47, .inl (g.2.1 1, 16, .inl gr0))]) rfl [0, 1, 2, 3, 4, 5, 6, 7] rfl rfl (⟨_, _, Or.inr rfl, fun _ => rfl, fun x hx => rfl, hg0, rfl⟩) ⟨Nat.le_of_ble_eq_true rfl, Nat.le_of_ble_eq_true rfl⟩ dX12_gossips_70
        · subst ha1
          refine lv_iload (pc := 59) hx hb dX12_gossips_59 (lv_at hl 5 rfl) ?_
          refine lv_if_ne (tgt := 68) (pc := 61) hx hb dX12_gossips_61 rfl (fun c5 => absurd (by decide) c5) (fun c5 => ?_)
          refine lv_iload_n (pc := 64) hx hb dX12_gossips_64 rfl (lv_at hl 3 rfl) ?_
          refine lv_if_ne (tgt := 71) (pc := 65) hx hb dX12_gossips_65 rfl (fun c6 => ?_) (fun c6 => absurd c6 (by decide))
          refine lv_iconst (v := 0) (pc := 71) hx hb dX12_gossips_71 (by decide) ?_
          refine lv_istore (lv' := [(6, .int 0), (0, .ref h0), (1, .int (nI v)), (2, .int (nI dn)), (3, .int 8), (4, .int (nI (7 * dn))), (5, .int 0)]) (pc := 72) hx hb dX12_gossips_72 hl (by decide) rfl (fun ls hl => ?_)
          have hW : WD g A s _ _ [(h0, .inr (12, [.int i0, .ref b1, .int i2, .int i3, .int i4, .int i5, .ref b6, .ref b7, .ref b8, .ref b9, .ref b10, .ref b11, .ref b12, .ref b13, .ref b14, .ref b15, .ref b16, .ref b17, .int i18, .int i19, .int i20, .ref b21, .ref b22, .ref b23, .ref b24, .ref b25, .ref b26, .int i27, .ref b28, .ref b29, .ref b30, .ref b31, .ref b32, .ref b33, .ref b34, .ref b35, .ref b36, .int i37, .int i38, .int i39, .int i40, .int i41, .int i42, .int i43, .int i44, .int i45, .ref b46, .ref b47, .ref b48, .ref b49, .ref b50, .ref b51, .ref b52, .ref b53, .ref b54, .ref b55, .ref b56, .ref b57, .ref b58, .ref b59, .ref b60, .ref b61, .ref b62, .ref b63])), (b6, .inl (g.2.1 1, 11, .inl P)), (b7, .inl (g.2.1 1, 11, .inl Lc)), (b12, .inl (g.2.1 1, 132, .inl La)), (b13, .inl (g.2.1 1, 132, .inl Lb)), (b48, .inl (g.2.1 3, 12, .inl lw)), (b46, .inl (g.2.1 1, 112, .inl G)), (b47, .inl (g.2.1 1, 16, .inl gr0))] := hW.pick [0, 1, 2, 3, 4, 5, 6, 7] rfl rfl
          have loop2 : ∀ (fv : Nat) (i : Nat) (G2 : Nat → Int32) (gr : Nat → Int32), (lc < fv + i) → (i ≤ lc) → (∀ x : Nat, x < 7 * (dn + 1) → G2 x = G x) → (gb16 gr) → (gno La Lb lw v lc pp (evy (nI pp)) 7 (rwt G dn) i) → ∀ (H : Heap) (locs : List Loc) (ls : Array Slot), WD g A s H locs [(h0, .inr (12, [.int i0, .ref b1, .int i2, .int i3, .int i4, .int i5, .ref b6, .ref b7, .ref b8, .ref b9, .ref b10, .ref b11, .ref b12, .ref b13, .ref b14, .ref b15, .ref b16, .ref b17, .int i18, .int i19, .int i20, .ref b21, .ref b22, .ref b23, .ref b24, .ref b25, .ref b26, .int i27, .ref b28, .ref b29, .ref b30, .ref b31, .ref b32, .ref b33, .ref b34, .ref b35, .ref b36, .int i37, .int i38, .int i39, .int i40, .int i41, .int i42, .int i43, .int i44, .int i45, .ref b46, .ref b47, .ref b48, .ref b49, .ref b50, .ref b51, .ref b52, .ref b53, .ref b54, .ref b55, .ref b56, .ref b57, .ref b58, .ref b59, .ref b60, .ref b61, .ref b62, .ref b63])), (b6, .inl (g.2.1 1, 11, .inl P)), (b7, .inl (g.2.1 1, 11, .inl Lc)), (b12, .inl (g.2.1 1, 132, .inl La)), (b13, .inl (g.2.1 1, 132, .inl Lb)), (b48, .inl (g.2.1 3, 12, .inl lw)), (b46, .inl (g.2.1 1, 112, .inl G2)), (b47, .inl (g.2.1 1, 16, .inl gr))] → lv_has ls 10 [(0, .ref h0), (1, .int (nI v)), (2, .int (nI dn)), (3, .int 8), (4, .int (nI (7 * dn))), (5, .int 0), (6, .int (nI i))] → W p l e (RM 9 0 0) s m args below meth c H locs 0 0 Q (F0 m 74 ls []) := by
            intro fv
            induction fv with
            | zero =>
              intro i G2 gr hm2 hi hG2 hgr hno
              exact absurd hm2 (by omega)
            | succ fv ih2 =>
              intro i G2 gr hm2 hi hG2 hgr hno H locs ls hW hl
              refine lv_iload (pc := 74) hx hb dX12_gossips_74 (lv_at hl 6 rfl) ?_
              refine lv_aload_n (pc := 76) hx hb dX12_gossips_76 rfl (lv_at hl 0 rfl) ?_
              refine r_get X hW 0 ciX12 7 rfl (by decide) m_1238 rfl rfl dX12_gossips_77 ?_
              refine lv_iload_n (pc := 80) hx hb dX12_gossips_80 rfl (lv_at hl 1 rfl) ?_
              refine r_iald X hW 2 rfl (vp_in_nI (by omega) (by decide)) dX12_gossips_81 ?_
              refine lv_topi (fun uv7 euv7 => ?_)
              obtain rfl : uv7 = nI lc := euv7.trans (by rw [nI_clamp (by omega)]; exact hLc)
              refine lv_icmp_ge (tgt := 282) (pc := 82) hx hb dX12_gossips_82 rfl (fun c8 => ?_) (fun c8 => ?_)
              · have hie : i = lc := Nat.le_antisymm hi (ge_t (by omega) (by omega) c8)
                refine lv_iconst (v := 0) (pc := 282) hx hb dX12_gossips_282 (by decide) ?_
                exact e_z X hQ hr hW (u := [(h0, .inr (12, [.int i0, .ref b1, .int i2, .int i3, .int i4, .int i5, .ref b6, .ref b7, .ref b8, .ref b9, .ref b10, .ref b11, .ref b12, .ref b13, .ref b14, .ref b15, .ref b16, .ref b17, .int i18, .int i19, .int i20, .ref b21, .ref b22, .ref b23, .ref b24, .ref b25, .ref b26, .int i27, .ref b28, .ref b29, .ref b30, .ref b31, .ref b32, .ref b33, .ref b34, .ref b35, .ref b36, .int i37, .int i38, .int i39, .int i40, .int i41, .int i42, .int i43, .int i44, .int i45, .ref b46, .ref b47, .ref b48, .ref b49, .ref b50, .ref b51, .ref b52, .ref b53, .ref b54, .ref b55, .ref b56, .ref b57, .ref b58, .ref b59, .ref b60, .ref b61, .ref b62, .ref b63])), (b6, .inl (g.2.1 1, 11, .inl P)), (b7, .inl (g.2.1 1, 11, .inl Lc)), (b12, .inl (g.2.1 1, 132, .inl La)), (b13, .inl (g.2.1 1, 132, .inl Lb)), (b48, .inl (g.2.1 3, 12, .inl lw)), (b46, .inl (g.2.1 1, 112, .inl G2)), (b47, .inl (g.2.1 1, 16, .inl gr))]) rfl [0, 1, 2, 3, 4, 5, 6, 7] rfl rfl (⟨_, _, Or.inl rfl, fun q => absurd q (gno_end hno hie hal), hG2, hgr, rfl⟩) ⟨Nat.le_of_ble_eq_true rfl, Nat.le_of_ble_eq_true rfl⟩ dX12_gossips_283
              · have hil : i < lc := ge_f (by omega) (by omega) c8
                obtain ⟨ea, hea, eA⟩ := hLA (12 * v + i) (by omega)
                obtain ⟨eb, heb, eB⟩ := hLB (12 * v + i) (by omega)
                refine lv_bipush (v := 12) (pc := 85) hx hb dX12_gossips_85 (by decide) ?_
                refine lv_iload_n (pc := 87) hx hb dX12_gossips_87 rfl (lv_at hl 1 rfl) ?_
                refine lv_imul (pc := 88) hx hb dX12_gossips_88 ?_
                refine lv_topi (fun uv9 euv9 => ?_)
                obtain rfl : uv9 = nI (12 * v) := euv9.trans (pk_mul _ _)
                refine lv_iload (pc := 89) hx hb dX12_gossips_89 (lv_at hl 6 rfl) ?_
                refine lv_iadd (pc := 91) hx hb dX12_gossips_91 ?_
                refine lv_topi (fun uv10 euv10 => ?_)
                obtain rfl : uv10 = nI (12 * v + i) := euv10.trans (nI_add _ _)
                refine lv_istore (lv' := [(7, .int (nI (12 * v + i))), (0, .ref h0), (1, .int (nI v)), (2, .int (nI dn)), (3, .int 8), (4, .int (nI (7 * dn))), (5, .int 0), (6, .int (nI i))]) (pc := 92) hx hb dX12_gossips_92 hl (by decide) rfl (fun ls hl => ?_)
                refine lv_aload_n (pc := 94) hx hb dX12_gossips_94 rfl (lv_at hl 1 rfl) ?_
                refine r_get X hW 0 ciX12 46 rfl (by decide) m_1273 rfl rfl dX12_gossips_95 ?_
                refine lv_iload (pc := 98) hx hb dX12_gossips_98 (lv_at hl 5 rfl) ?_
                refine lv_aload_n (pc := 100) hx hb dX12_gossips_100 rfl (lv_at hl 1 rfl) ?_
                refine r_get X hW 0 ciX12 12 rfl (by decide) m_1243 rfl rfl dX12_gossips_101 ?_
                refine lv_iload (pc := 104) hx hb dX12_gossips_104 (lv_at hl 0 rfl) ?_
                refine r_iald X hW 3 rfl (vp_in_nI (by omega) (by decide)) dX12_gossips_106 ?_
                refine lv_topi (fun uv11 euv11 => ?_)
                obtain rfl : uv11 = nI ea := euv11.trans (by rw [nI_clamp (by omega)]; exact eA)
                refine lv_iadd (pc := 107) hx hb dX12_gossips_107 ?_
                refine lv_topi (fun uv12 euv12 => ?_)
                obtain rfl : uv12 = nI (7 * dn + ea) := euv12.trans (nI_add _ _)
                refine r_iald X hW 6 rfl (vp_in_nI (by omega) (by decide)) dX12_gossips_108 ?_
                refine lv_topi (fun uv13 euv13 => ?_)
                obtain rfl : uv13 = G (7 * dn + ea) := euv13.trans (by rw [nI_clamp (by omega)]; exact hG2 _ (by omega))
                refine lv_aload_n (pc := 109) hx hb dX12_gossips_109 rfl (lv_at hl 1 rfl) ?_
                refine r_get X hW 0 ciX12 46 rfl (by decide) m_1273 rfl rfl dX12_gossips_110 ?_
                refine lv_iload (pc := 113) hx hb dX12_gossips_113 (lv_at hl 5 rfl) ?_
                refine lv_aload_n (pc := 115) hx hb dX12_gossips_115 rfl (lv_at hl 1 rfl) ?_
                refine r_get X hW 0 ciX12 13 rfl (by decide) m_1244 rfl rfl dX12_gossips_116 ?_
                refine lv_iload (pc := 119) hx hb dX12_gossips_119 (lv_at hl 0 rfl) ?_
                refine r_iald X hW 4 rfl (vp_in_nI (by omega) (by decide)) dX12_gossips_121 ?_
                refine lv_topi (fun uv14 euv14 => ?_)
                obtain rfl : uv14 = nI eb := euv14.trans (by rw [nI_clamp (by omega)]; exact eB)
                refine lv_iadd (pc := 122) hx hb dX12_gossips_122 ?_
                refine lv_topi (fun uv15 euv15 => ?_)
                obtain rfl : uv15 = nI (7 * dn + eb) := euv15.trans (nI_add _ _)
                refine r_iald X hW 6 rfl (vp_in_nI (by omega) (by decide)) dX12_gossips_123 ?_
                refine lv_topi (fun uv16 euv16 => ?_)
                obtain rfl : uv16 = G (7 * dn + eb) := euv16.trans (by rw [nI_clamp (by omega)]; exact hG2 _ (by omega))
                refine lv_ior (pc := 124) hx hb dX12_gossips_124 ?_
                refine lv_topi (fun uv17 euv17 => ?_)
                obtain rfl : uv17 = G (7 * dn + ea) ||| G (7 * dn + eb) := euv17.trans (rfl)
                refine lv_istore (lv' := [(8, .int (G (7 * dn + ea) ||| G (7 * dn + eb))), (7, .int (nI (12 * v + i))), (0, .ref h0), (1, .int (nI v)), (2, .int (nI dn)), (3, .int 8), (4, .int (nI (7 * dn))), (5, .int 0), (6, .int (nI i))]) (pc := 125) hx hb dX12_gossips_125 hl (by decide) rfl (fun ls hl => ?_)
                refine lv_aload_n (pc := 127) hx hb dX12_gossips_127 rfl (lv_at hl 2 rfl) ?_
                refine r_get X hW 0 ciX12 48 rfl (by decide) m_1275 rfl rfl dX12_gossips_128 ?_
                refine lv_iload (pc := 131) hx hb dX12_gossips_131 (lv_at hl 8 rfl) ?_
                refine r_zald X hW 5 rfl (vp_in_nI (by omega) (by decide)) dX12_gossips_133 ?_
                refine lv_topi (fun uv18 euv18 => ?_)
                obtain rfl : uv18 = lw i := euv18.trans (by rw [nI_clamp (by omega)])
                refine lv_if_eq (tgt := 276) (pc := 134) hx hb dX12_gossips_134 rfl (fun c19 => ?_) (fun c19 => ?_)
                · refine lv_iinc (v := nI (i + 1)) (lv' := [(6, .int (nI (i + 1))), (8, .int (G (7 * dn + ea) ||| G (7 * dn + eb))), (7, .int (nI (12 * v + i))), (0, .ref h0), (1, .int (nI v)), (2, .int (nI dn)), (3, .int 8), (4, .int (nI (7 * dn))), (5, .int 0)]) (pc := 276) hx hb dX12_gossips_276 hl (k := 8) rfl ((nI_succ i).symm) (by decide) rfl (fun ls hl => ?_)
                  refine lv_goto (tgt := 74) (pc := 279) hx hb dX12_gossips_279 rfl ?_
                  have hW : WD g A s _ _ [(h0, .inr (12, [.int i0, .ref b1, .int i2, .int i3, .int i4, .int i5, .ref b6, .ref b7, .ref b8, .ref b9, .ref b10, .ref b11, .ref b12, .ref b13, .ref b14, .ref b15, .ref b16, .ref b17, .int i18, .int i19, .int i20, .ref b21, .ref b22, .ref b23, .ref b24, .ref b25, .ref b26, .int i27, .ref b28, .ref b29, .ref b30, .ref b31, .ref b32, .ref b33, .ref b34, .ref b35, .ref b36, .int i37, .int i38, .int i39, .int i40, .int i41, .int i42, .int i43, .int i44, .int i45, .ref b46, .ref b47, .ref b48, .ref b49, .ref b50, .ref b51, .ref b52, .ref b53, .ref b54, .ref b55, .ref b56, .ref b57, .ref b58, .ref b59, .ref b60, .ref b61, .ref b62, .ref b63])), (b6, .inl (g.2.1 1, 11, .inl P)), (b7, .inl (g.2.1 1, 11, .inl Lc)), (b12, .inl (g.2.1 1, 132, .inl La)), (b13, .inl (g.2.1 1, 132, .inl Lb)), (b48, .inl (g.2.1 3, 12, .inl lw)), (b46, .inl (g.2.1 1, 112, .inl G2)), (b47, .inl (g.2.1 1, 16, .inl gr))] := hW.pick [0, 1, 2, 3, 4, 5, 6, 7] rfl rfl
                  exact ih2 (i + 1) G2 gr (by omega) (by omega) (hG2) hgr (gno_s hno (by omega) hea heb eA eB (fun ha9 hb9 hw9 hu9 => absurd c19 hw9)) _ _ _ hW (lv_sub hl [3, 4, 5, 6, 7, 8, 0] rfl)
                · have hw_i := c19
                  refine lv_aload_n (pc := 137) hx hb dX12_gossips_137 rfl (lv_at hl 2 rfl) ?_
                  refine r_get X hW 0 ciX12 46 rfl (by decide) m_1273 rfl rfl dX12_gossips_138 ?_
                  refine lv_iload (pc := 141) hx hb dX12_gossips_141 (lv_at hl 6 rfl) ?_
                  refine lv_aload_n (pc := 143) hx hb dX12_gossips_143 rfl (lv_at hl 2 rfl) ?_
                  refine r_get X hW 0 ciX12 12 rfl (by decide) m_1243 rfl rfl dX12_gossips_144 ?_
                  refine lv_iload (pc := 147) hx hb dX12_gossips_147 (lv_at hl 1 rfl) ?_
                  refine r_iald X hW 3 rfl (vp_in_nI (by omega) (by decide)) dX12_gossips_149 ?_
                  refine lv_topi (fun uv20 euv20 => ?_)
                  obtain rfl : uv20 = nI ea := euv20.trans (by rw [nI_clamp (by omega)]; exact eA)
                  refine lv_iadd (pc := 150) hx hb dX12_gossips_150 ?_
                  refine lv_topi (fun uv21 euv21 => ?_)
                  obtain rfl : uv21 = nI (7 * dn + ea) := euv21.trans (nI_add _ _)
                  refine r_iald X hW 6 rfl (vp_in_nI (by omega) (by decide)) dX12_gossips_151 ?_
                  refine lv_topi (fun uv22 euv22 => ?_)
                  obtain rfl : uv22 = G (7 * dn + ea) := euv22.trans (by rw [nI_clamp (by omega)]; exact hG2 _ (by omega))
                  refine lv_iload (pc := 152) hx hb dX12_gossips_152 (lv_at hl 0 rfl) ?_
                  refine lv_icmp_ne (tgt := 180) (pc := 154) hx hb dX12_gossips_154 rfl (fun c23 => ?_) (fun c23 => ?_)
                  · refine lv_iconst (v := 0) (pc := 180) hx hb dX12_gossips_180 (by decide) ?_
                    refine lv_istore (lv' := [(9, .int 0), (8, .int (G (7 * dn + ea) ||| G (7 * dn + eb))), (7, .int (nI (12 * v + i))), (0, .ref h0), (1, .int (nI v)), (2, .int (nI dn)), (3, .int 8), (4, .int (nI (7 * dn))), (5, .int 0), (6, .int (nI i))]) (pc := 181) hx hb dX12_gossips_181 hl (by decide) rfl (fun ls hl => ?_)
                    have loop3 : ∀ (fx : Nat) (y : Nat) (G3 : Nat → Int32), (pp < fx + y) → (y ≤ pp) → (∀ x : Nat, x < 7 * (dn + 1) → G3 x = G x) → (∀ z : Nat, z < y → G3 (7 * dn + 7 + z) = gaft (rwt G dn) ea eb z) → ∀ (H : Heap) (locs : List Loc) (ls : Array Slot), WD g A s H locs [(h0, .inr (12, [.int i0, .ref b1, .int i2, .int i3, .int i4, .int i5, .ref b6, .ref b7, .ref b8, .ref b9, .ref b10, .ref b11, .ref b12, .ref b13, .ref b14, .ref b15, .ref b16, .ref b17, .int i18, .int i19, .int i20, .ref b21, .ref b22, .ref b23, .ref b24, .ref b25, .ref b26, .int i27, .ref b28, .ref b29, .ref b30, .ref b31, .ref b32, .ref b33, .ref b34, .ref b35, .ref b36, .int i37, .int i38, .int i39, .int i40, .int i41, .int i42, .int i43, .int i44, .int i45, .ref b46, .ref b47, .ref b48, .ref b49, .ref b50, .ref b51, .ref b52, .ref b53, .ref b54, .ref b55, .ref b56, .ref b57, .ref b58, .ref b59, .ref b60, .ref b61, .ref b62, .ref b63])), (b6, .inl (g.2.1 1, 11, .inl P)), (b7, .inl (g.2.1 1, 11, .inl Lc)), (b12, .inl (g.2.1 1, 132, .inl La)), (b13, .inl (g.2.1 1, 132, .inl Lb)), (b48, .inl (g.2.1 3, 12, .inl lw)), (b46, .inl (g.2.1 1, 112, .inl G3)), (b47, .inl (g.2.1 1, 16, .inl gr))] → lv_has ls 10 [(0, .ref h0), (1, .int (nI v)), (2, .int (nI dn)), (3, .int 8), (4, .int (nI (7 * dn))), (5, .int 0), (6, .int (nI i)), (7, .int (nI (12 * v + i))), (8, .int (G (7 * dn + ea) ||| G (7 * dn + eb))), (9, .int (nI y))] → W p l e (RM 9 0 0) s m args below meth c H locs 0 0 Q (F0 m 183 ls []) := by
                      intro fx
                      induction fx with
                      | zero =>
                        intro y G3 hm3 hy hG3 hC
                        exact absurd hm3 (by omega)
                      | succ fx ih3 =>
                        intro y G3 hm3 hy hG3 hC H locs ls hW hl
                        refine lv_iload (pc := 183) hx hb dX12_gossips_183 (lv_at hl 9 rfl) ?_
                        refine lv_aload_n (pc := 185) hx hb dX12_gossips_185 rfl (lv_at hl 0 rfl) ?_
                        refine r_get X hW 0 ciX12 6 rfl (by decide) m_1237 rfl rfl dX12_gossips_186 ?_
                        refine lv_iload_n (pc := 189) hx hb dX12_gossips_189 rfl (lv_at hl 1 rfl) ?_
                        refine r_iald X hW 1 rfl (vp_in_nI (by omega) (by decide)) dX12_gossips_190 ?_
                        refine lv_topi (fun uv24 euv24 => ?_)
                        obtain rfl : uv24 = nI pp := euv24.trans (by rw [nI_clamp (by omega)]; exact hP)
                        refine lv_icmp_ge (tgt := 252) (pc := 191) hx hb dX12_gossips_191 rfl (fun c25 => ?_) (fun c25 => ?_)
                        · have hyk : y = pp := Nat.le_antisymm hy (ge_t (by omega) (by omega) c25)
                          rw [hyk] at hC
                          refine lv_aload_n (pc := 252) hx hb dX12_gossips_252 rfl (lv_at hl 0 rfl) ?_
                          refine r_get X hW 0 ciX12 47 rfl (by decide) m_1274 rfl rfl dX12_gossips_253 ?_
                          refine lv_iload_n (pc := 256) hx hb dX12_gossips_256 rfl (lv_at hl 2 rfl) ?_
                          refine lv_iload (pc := 257) hx hb dX12_gossips_257 (lv_at hl 6 rfl) ?_
                          obtain ⟨f26, ef26⟩ : ∃ fz : Nat → Int32, upd gr (nI dn).toNatClampNeg (nI i) = fz := ⟨_, rfl⟩
                          refine r_iast (ws' := [(h0, .inr (12, [.int i0, .ref b1, .int i2, .int i3, .int i4, .int i5, .ref b6, .ref b7, .ref b8, .ref b9, .ref b10, .ref b11, .ref b12, .ref b13, .ref b14, .ref b15, .ref b16, .ref b17, .int i18, .int i19, .int i20, .ref b21, .ref b22, .ref b23, .ref b24, .ref b25, .ref b26, .int i27, .ref b28, .ref b29, .ref b30, .ref b31, .ref b32, .ref b33, .ref b34, .ref b35, .ref b36, .int i37, .int i38, .int i39, .int i40, .int i41, .int i42, .int i43, .int i44, .int i45, .ref b46, .ref b47, .ref b48, .ref b49, .ref b50, .ref b51, .ref b52, .ref b53, .ref b54, .ref b55, .ref b56, .ref b57, .ref b58, .ref b59, .ref b60, .ref b61, .ref b62, .ref b63])), (b6, .inl (g.2.1 1, 11, .inl P)), (b7, .inl (g.2.1 1, 11, .inl Lc)), (b12, .inl (g.2.1 1, 132, .inl La)), (b13, .inl (g.2.1 1, 132, .inl Lb)), (b48, .inl (g.2.1 3, 12, .inl lw)), (b46, .inl (g.2.1 1, 112, .inl G3)), (b47, .inl (g.2.1 1, 16, .inl f26))]) X hW 7 rfl (vp_in_nI (by omega) (by decide)) ef26 rfl dX12_gossips_259 (fun H locs hW => ?_)
                          have hg_f26 : gb16 f26 := by rw [← ef26]; exact gb16_upd hgr (by omega)
                          refine lv_aload_n (pc := 260) hx hb dX12_gossips_260 rfl (lv_at hl 0 rfl) ?_
                          refine lv_iload_n (pc := 261) hx hb dX12_gossips_261 rfl (lv_at hl 1 rfl) ?_
                          refine lv_iload_n (pc := 262) hx hb dX12_gossips_262 rfl (lv_at hl 2 rfl) ?_
                          refine lv_iconst (v := 1) (pc := 263) hx hb dX12_gossips_263 (by decide) ?_
                          refine lv_iadd (pc := 264) hx hb dX12_gossips_264 ?_
                          refine lv_topi (fun uv27 euv27 => ?_)
                          obtain rfl : uv27 = nI (dn + 1) := euv27.trans (nI_1 _)
                          refine lv_iload_n (pc := 265) hx hb dX12_gossips_265 rfl (lv_at hl 3 rfl) ?_
                          refine lv_iconst (v := 1) (pc := 266) hx hb dX12_gossips_266 (by decide) ?_
                          refine lv_isub (pc := 267) hx hb dX12_gossips_267 ?_
                          refine lv_topi (fun uv28 euv28 => ?_)
                          obtain rfl : uv28 = 7 := euv28.trans (by decide +kernel)
                          refine c_Vi (pc := 268) (As := [.int (nI v), .int (nI (dn + 1)), .int 7]) (rest := []) (wr := []) X hW 0 ciX12 rfl (C_X12_gossips_7 l g h0 b1 b6 b7 b8 b9 b10 b11 b12 b13 b14 b15 b16 b17 b21 b22 b23 b24 b25 b26 b28 b29 b30 b31 b32 b33 b34 b35 b36 b46 b47 b48 b49 b50 b51 b52 b53 b54 b55 b56 b57 b58 b59 b60 b61 b62 b63 i0 i2 i3 i4 i5 i18 i19 i20 i27 i37 i38 i39 i40 i41 i42 i43 i44 i45 P Lc La Lb lw G3 f26 v lc pp (dn + 1) hv hlc hpp hP hLc hLA hLB hg_f26 (by omega)) vX12_346 [0, 1, 2, 3, 4, 5, 6, 7] [] rfl rfl rfl rfl rfl rfl hl.1 rfl (Nat.le_of_ble_eq_true rfl) ⟨Nat.le_of_ble_eq_true rfl, Nat.le_of_ble_eq_true rfl⟩ ⟨Nat.le_of_ble_eq_true rfl, Nat.le_of_ble_eq_true rfl⟩ dX12_gossips_268 (fun r31 u9 H locs hq hW => ?_)
                          obtain ⟨gq29, gw30, -, hq1_gq29, hq2_gq29, hgw30, rfl⟩ := hq
                          have hW : WD g A s _ _ [(h0, .inr (12, [.int i0, .ref b1, .int i2, .int i3, .int i4, .int i5, .ref b6, .ref b7, .ref b8, .ref b9, .ref b10, .ref b11, .ref b12, .ref b13, .ref b14, .ref b15, .ref b16, .ref b17, .int i18, .int i19, .int i20, .ref b21, .ref b22, .ref b23, .ref b24, .ref b25, .ref b26, .int i27, .ref b28, .ref b29, .ref b30, .ref b31, .ref b32, .ref b33, .ref b34, .ref b35, .ref b36, .int i37, .int i38, .int i39, .int i40, .int i41, .int i42, .int i43, .int i44, .int i45, .ref b46, .ref b47, .ref b48, .ref b49, .ref b50, .ref b51, .ref b52, .ref b53, .ref b54, .ref b55, .ref b56, .ref b57, .ref b58, .ref b59, .ref b60, .ref b61, .ref b62, .ref b63])), (b6, .inl (g.2.1 1, 11, .inl P)), (b7, .inl (g.2.1 1, 11, .inl Lc)), (b12, .inl (g.2.1 1, 132, .inl La)), (b13, .inl (g.2.1 1, 132, .inl Lb)), (b48, .inl (g.2.1 3, 12, .inl lw)), (b46, .inl (g.2.1 1, 112, .inl gq29)), (b47, .inl (g.2.1 1, 16, .inl gw30))] := hW
                          refine lv_if_eq (tgt := 276) (pc := 271) hx hb dX12_gossips_271 rfl (fun c32 => ?_) (fun c32 => ?_)
                          · refine lv_iinc (v := nI (i + 1)) (lv' := [(6, .int (nI (i + 1))), (0, .ref h0), (1, .int (nI v)), (2, .int (nI dn)), (3, .int 8), (4, .int (nI (7 * dn))), (5, .int 0), (7, .int (nI (12 * v + i))), (8, .int (G (7 * dn + ea) ||| G (7 * dn + eb))), (9, .int (nI y))]) (pc := 276) hx hb dX12_gossips_276 hl (k := 6) rfl ((nI_succ i).symm) (by decide) rfl (fun ls hl => ?_)
                            refine lv_goto (tgt := 74) (pc := 279) hx hb dX12_gossips_279 rfl ?_
                            have hW : WD g A s _ _ [(h0, .inr (12, [.int i0, .ref b1, .int i2, .int i3, .int i4, .int i5, .ref b6, .ref b7, .ref b8, .ref b9, .ref b10, .ref b11, .ref b12, .ref b13, .ref b14, .ref b15, .ref b16, .ref b17, .int i18, .int i19, .int i20, .ref b21, .ref b22, .ref b23, .ref b24, .ref b25, .ref b26, .int i27, .ref b28, .ref b29, .ref b30, .ref b31, .ref b32, .ref b33, .ref b34, .ref b35, .ref b36, .int i37, .int i38, .int i39, .int i40, .int i41, .int i42, .int i43, .int i44, .int i45, .ref b46, .ref b47, .ref b48, .ref b49, .ref b50, .ref b51, .ref b52, .ref b53, .ref b54, .ref b55, .ref b56, .ref b57, .ref b58, .ref b59, .ref b60, .ref b61, .ref b62, .ref b63])), (b6, .inl (g.2.1 1, 11, .inl P)), (b7, .inl (g.2.1 1, 11, .inl Lc)), (b12, .inl (g.2.1 1, 132, .inl La)), (b13, .inl (g.2.1 1, 132, .inl Lb)), (b48, .inl (g.2.1 3, 12, .inl lw)), (b46, .inl (g.2.1 1, 112, .inl gq29)), (b47, .inl (g.2.1 1, 16, .inl gw30))] := hW.pick [0, 1, 2, 3, 4, 5, 6, 7] rfl rfl
                            exact ih2 (i + 1) gq29 gw30 (by omega) (by omega) (fun x hx => (hq2_gq29 x (by omega)).trans (hG3 x hx)) hgw30 (gno_s hno (by omega) hea heb eA eB (fun ha9 hb9 hw9 hu9 => fun hg9 => absurd (hq1_gq29 (gok_cong hg9 (fun o ho => (hC o ho).symm))) (by rw [c32]; decide))) _ _ _ hW (lv_sub hl [1, 2, 3, 4, 5, 6, 0] rfl)
                          · refine lv_iconst (v := 1) (pc := 274) hx hb dX12_gossips_274 (by decide) ?_
                            exact e_z X hQ hr hW (u := [(h0, .inr (12, [.int i0, .ref b1, .int i2, .int i3, .int i4, .int i5, .ref b6, .ref b7, .ref b8, .ref b9, .ref b10, .ref b11, .ref b12, .ref b13, .ref b14, .ref b15, .ref b16, .ref b17, .int i18, .int i19, .int i20, .ref b21, .ref b22, .ref b23, .ref b24, .ref b25, .ref b26, .int i27, .ref b28, .ref b29, .ref b30, .ref b31, .ref b32, .ref b33, .ref b34, .ref b35, .ref b36, .int i37, .int i38, .int i39, .int i40, .int i41, .int i42, .int i43, .int i44, .int i45, .ref b46, .ref b47, .ref b48, .ref b49, .ref b50, .ref b51, .ref b52, .ref b53, .ref b54, .ref b55, .ref b56, .ref b57, .ref b58, .ref b59, .ref b60, .ref b61, .ref b62, .ref b63])), (b6, .inl (g.2.1 1, 11, .inl P)), (b7, .inl (g.2.1 1, 11, .inl Lc)), (b12, .inl (g.2.1 1, 132, .inl La)), (b13, .inl (g.2.1 1, 132, .inl Lb)), (b48, .inl (g.2.1 3, 12, .inl lw)), (b46, .inl (g.2.1 1, 112, .inl gq29)), (b47, .inl (g.2.1 1, 16, .inl gw30))]) rfl [0, 1, 2, 3, 4, 5, 6, 7] rfl rfl (⟨_, _, Or.inr rfl, fun _ => rfl, fun x hx => (hq2_gq29 x (by omega)).trans (hG3 x hx), hgw30, rfl⟩) ⟨Nat.le_of_ble_eq_true rfl, Nat.le_of_ble_eq_true rfl⟩ dX12_gossips_275
                        · have hyl : y < pp := ge_f (by omega) (by omega) c25
                          refine lv_aload_n (pc := 194) hx hb dX12_gossips_194 rfl (lv_at hl 0 rfl) ?_
                          refine r_get X hW 0 ciX12 46 rfl (by decide) m_1273 rfl rfl dX12_gossips_195 ?_
                          refine lv_iload (pc := 198) hx hb dX12_gossips_198 (lv_at hl 4 rfl) ?_
                          refine lv_bipush (v := 7) (pc := 200) hx hb dX12_gossips_200 (by decide) ?_
                          refine lv_iadd (pc := 202) hx hb dX12_gossips_202 ?_
                          refine lv_topi (fun uv33 euv33 => ?_)
                          obtain rfl : uv33 = nI (7 * dn + 7) := euv33.trans (nI_add _ _)
                          refine lv_iload (pc := 203) hx hb dX12_gossips_203 (lv_at hl 9 rfl) ?_
                          refine lv_iadd (pc := 205) hx hb dX12_gossips_205 ?_
                          refine lv_topi (fun uv34 euv34 => ?_)
                          obtain rfl : uv34 = nI (7 * dn + 7 + y) := euv34.trans (nI_add _ _)
                          refine lv_iload (pc := 206) hx hb dX12_gossips_206 (lv_at hl 9 rfl) ?_
                          refine lv_aload_n (pc := 208) hx hb dX12_gossips_208 rfl (lv_at hl 0 rfl) ?_
                          refine r_get X hW 0 ciX12 12 rfl (by decide) m_1243 rfl rfl dX12_gossips_209 ?_
                          refine lv_iload (pc := 212) hx hb dX12_gossips_212 (lv_at hl 7 rfl) ?_
                          refine r_iald X hW 3 rfl (vp_in_nI (by omega) (by decide)) dX12_gossips_214 ?_
                          refine lv_topi (fun uv35 euv35 => ?_)
                          obtain rfl : uv35 = nI ea := euv35.trans (by rw [nI_clamp (by omega)]; exact eA)
                          refine lv_icmp_eq (tgt := 230) (pc := 215) hx hb dX12_gossips_215 rfl (fun c36 => ?_) (fun c36 => ?_)
                          · refine lv_iload (pc := 230) hx hb dX12_gossips_230 (lv_at hl 8 rfl) ?_
                            refine lv_goto (tgt := 245) (pc := 232) hx hb dX12_gossips_232 rfl ?_
                            obtain ⟨f37, ef37⟩ : ∃ fz : Nat → Int32, upd G3 (nI (7 * dn + 7 + y)).toNatClampNeg (G (7 * dn + ea) ||| G (7 * dn + eb)) = fz := ⟨_, rfl⟩
                            refine r_iast (ws' := [(h0, .inr (12, [.int i0, .ref b1, .int i2, .int i3, .int i4, .int i5, .ref b6, .ref b7, .ref b8, .ref b9, .ref b10, .ref b11, .ref b12, .ref b13, .ref b14, .ref b15, .ref b16, .ref b17, .int i18, .int i19, .int i20, .ref b21, .ref b22, .ref b23, .ref b24, .ref b25, .ref b26, .int i27, .ref b28, .ref b29, .ref b30, .ref b31, .ref b32, .ref b33, .ref b34, .ref b35, .ref b36, .int i37, .int i38, .int i39, .int i40, .int i41, .int i42, .int i43, .int i44, .int i45, .ref b46, .ref b47, .ref b48, .ref b49, .ref b50, .ref b51, .ref b52, .ref b53, .ref b54, .ref b55, .ref b56, .ref b57, .ref b58, .ref b59, .ref b60, .ref b61, .ref b62, .ref b63])), (b6, .inl (g.2.1 1, 11, .inl P)), (b7, .inl (g.2.1 1, 11, .inl Lc)), (b12, .inl (g.2.1 1, 132, .inl La)), (b13, .inl (g.2.1 1, 132, .inl Lb)), (b48, .inl (g.2.1 3, 12, .inl lw)), (b46, .inl (g.2.1 1, 112, .inl f37)), (b47, .inl (g.2.1 1, 16, .inl gr))]) X hW 6 rfl (vp_in_nI (by omega) (by decide)) ef37 rfl dX12_gossips_245 (fun H locs hW => ?_)
                            refine lv_iinc (v := nI (y + 1)) (lv' := [(9, .int (nI (y + 1))), (0, .ref h0), (1, .int (nI v)), (2, .int (nI dn)), (3, .int 8), (4, .int (nI (7 * dn))), (5, .int 0), (6, .int (nI i)), (7, .int (nI (12 * v + i))), (8, .int (G (7 * dn + ea) ||| G (7 * dn + eb)))]) (pc := 246) hx hb dX12_gossips_246 hl (k := 9) rfl ((nI_succ y).symm) (by decide) rfl (fun ls hl => ?_)
                            refine lv_goto (tgt := 183) (pc := 249) hx hb dX12_gossips_249 rfl ?_
                            have hW : WD g A s _ _ [(h0, .inr (12, [.int i0, .ref b1, .int i2, .int i3, .int i4, .int i5, .ref b6, .ref b7, .ref b8, .ref b9, .ref b10, .ref b11, .ref b12, .ref b13, .ref b14, .ref b15, .ref b16, .ref b17, .int i18, .int i19, .int i20, .ref b21, .ref b22, .ref b23, .ref b24, .ref b25, .ref b26, .int i27, .ref b28, .ref b29, .ref b30, .ref b31, .ref b32, .ref b33, .ref b34, .ref b35, .ref b36, .int i37, .int i38, .int i39, .int i40, .int i41, .int i42, .int i43, .int i44, .int i45, .ref b46, .ref b47, .ref b48, .ref b49, .ref b50, .ref b51, .ref b52, .ref b53, .ref b54, .ref b55, .ref b56, .ref b57, .ref b58, .ref b59, .ref b60, .ref b61, .ref b62, .ref b63])), (b6, .inl (g.2.1 1, 11, .inl P)), (b7, .inl (g.2.1 1, 11, .inl Lc)), (b12, .inl (g.2.1 1, 132, .inl La)), (b13, .inl (g.2.1 1, 132, .inl Lb)), (b48, .inl (g.2.1 3, 12, .inl lw)), (b46, .inl (g.2.1 1, 112, .inl f37)), (b47, .inl (g.2.1 1, 16, .inl gr))] := hW.pick [0, 1, 2, 3, 4, 5, 6, 7] rfl rfl
                            exact ih3 (y + 1) f37 (by omega) (by omega) (fun x hx => by
                                rw [← ef37, nI_clamp (by omega)]
                                simp only [upd, show ¬ x = 7 * dn + 7 + y by omega, if_false]
                                exact hG3 x hx) (fun z hz => by
                                rw [← ef37, nI_clamp (by omega)]
                                by_cases e9 : z = y
                                · subst e9; simp only [upd, if_true]; rw [gaft, if_pos (Or.inl (nI_inj6 (by omega) (by omega) c36))]; rfl
                                · simp only [upd, show ¬ 7 * dn + 7 + z = 7 * dn + 7 + y by omega, if_false]; exact hC z (by omega)) _ _ _ hW (lv_sub hl [1, 2, 3, 4, 5, 6, 7, 8, 9, 0] rfl)
                          · refine lv_iload (pc := 218) hx hb dX12_gossips_218 (lv_at hl 9 rfl) ?_
                            refine lv_aload_n (pc := 220) hx hb dX12_gossips_220 rfl (lv_at hl 0 rfl) ?_
                            refine r_get X hW 0 ciX12 13 rfl (by decide) m_1244 rfl rfl dX12_gossips_221 ?_
                            refine lv_iload (pc := 224) hx hb dX12_gossips_224 (lv_at hl 7 rfl) ?_
                            refine r_iald X hW 4 rfl (vp_in_nI (by omega) (by decide)) dX12_gossips_226 ?_
                            refine lv_topi (fun uv38 euv38 => ?_)
                            obtain rfl : uv38 = nI eb := euv38.trans (by rw [nI_clamp (by omega)]; exact eB)
                            refine lv_icmp_ne (tgt := 235) (pc := 227) hx hb dX12_gossips_227 rfl (fun c39 => ?_) (fun c39 => ?_)
                            · refine lv_aload_n (pc := 235) hx hb dX12_gossips_235 rfl (lv_at hl 0 rfl) ?_
                              refine r_get X hW 0 ciX12 46 rfl (by decide) m_1273 rfl rfl dX12_gossips_236 ?_
                              refine lv_iload (pc := 239) hx hb dX12_gossips_239 (lv_at hl 4 rfl) ?_
                              refine lv_iload (pc := 241) hx hb dX12_gossips_241 (lv_at hl 9 rfl) ?_
                              refine lv_iadd (pc := 243) hx hb dX12_gossips_243 ?_
                              refine lv_topi (fun uv40 euv40 => ?_)
                              obtain rfl : uv40 = nI (7 * dn + y) := euv40.trans (nI_add _ _)
                              refine r_iald X hW 6 rfl (vp_in_nI (by omega) (by decide)) dX12_gossips_244 ?_
                              refine lv_topi (fun uv41 euv41 => ?_)
                              obtain rfl : uv41 = G (7 * dn + y) := euv41.trans (by rw [nI_clamp (by omega)]; exact hG3 _ (by omega))
                              obtain ⟨f42, ef42⟩ : ∃ fz : Nat → Int32, upd G3 (nI (7 * dn + 7 + y)).toNatClampNeg (G (7 * dn + y)) = fz := ⟨_, rfl⟩
                              refine r_iast (ws' := [(h0, .inr (12, [.int i0, .ref b1, .int i2, .int i3, .int i4, .int i5, .ref b6, .ref b7, .ref b8, .ref b9, .ref b10, .ref b11, .ref b12, .ref b13, .ref b14, .ref b15, .ref b16, .ref b17, .int i18, .int i19, .int i20, .ref b21, .ref b22, .ref b23, .ref b24, .ref b25, .ref b26, .int i27, .ref b28, .ref b29, .ref b30, .ref b31, .ref b32, .ref b33, .ref b34, .ref b35, .ref b36, .int i37, .int i38, .int i39, .int i40, .int i41, .int i42, .int i43, .int i44, .int i45, .ref b46, .ref b47, .ref b48, .ref b49, .ref b50, .ref b51, .ref b52, .ref b53, .ref b54, .ref b55, .ref b56, .ref b57, .ref b58, .ref b59, .ref b60, .ref b61, .ref b62, .ref b63])), (b6, .inl (g.2.1 1, 11, .inl P)), (b7, .inl (g.2.1 1, 11, .inl Lc)), (b12, .inl (g.2.1 1, 132, .inl La)), (b13, .inl (g.2.1 1, 132, .inl Lb)), (b48, .inl (g.2.1 3, 12, .inl lw)), (b46, .inl (g.2.1 1, 112, .inl f42)), (b47, .inl (g.2.1 1, 16, .inl gr))]) X hW 6 rfl (vp_in_nI (by omega) (by decide)) ef42 rfl dX12_gossips_245 (fun H locs hW => ?_)
                              refine lv_iinc (v := nI (y + 1)) (lv' := [(9, .int (nI (y + 1))), (0, .ref h0), (1, .int (nI v)), (2, .int (nI dn)), (3, .int 8), (4, .int (nI (7 * dn))), (5, .int 0), (6, .int (nI i)), (7, .int (nI (12 * v + i))), (8, .int (G (7 * dn + ea) ||| G (7 * dn + eb)))]) (pc := 246) hx hb dX12_gossips_246 hl (k := 9) rfl ((nI_succ y).symm) (by decide) rfl (fun ls hl => ?_)
                              refine lv_goto (tgt := 183) (pc := 249) hx hb dX12_gossips_249 rfl ?_
                              have hW : WD g A s _ _ [(h0, .inr (12, [.int i0, .ref b1, .int i2, .int i3, .int i4, .int i5, .ref b6, .ref b7, .ref b8, .ref b9, .ref b10, .ref b11, .ref b12, .ref b13, .ref b14, .ref b15, .ref b16, .ref b17, .int i18, .int i19, .int i20, .ref b21, .ref b22, .ref b23, .ref b24, .ref b25, .ref b26, .int i27, .ref b28, .ref b29, .ref b30, .ref b31, .ref b32, .ref b33, .ref b34, .ref b35, .ref b36, .int i37, .int i38, .int i39, .int i40, .int i41, .int i42, .int i43, .int i44, .int i45, .ref b46, .ref b47, .ref b48, .ref b49, .ref b50, .ref b51, .ref b52, .ref b53, .ref b54, .ref b55, .ref b56, .ref b57, .ref b58, .ref b59, .ref b60, .ref b61, .ref b62, .ref b63])), (b6, .inl (g.2.1 1, 11, .inl P)), (b7, .inl (g.2.1 1, 11, .inl Lc)), (b12, .inl (g.2.1 1, 132, .inl La)), (b13, .inl (g.2.1 1, 132, .inl Lb)), (b48, .inl (g.2.1 3, 12, .inl lw)), (b46, .inl (g.2.1 1, 112, .inl f42)), (b47, .inl (g.2.1 1, 16, .inl gr))] := hW.pick [0, 1, 2, 3, 4, 5, 6, 7] rfl rfl
                              exact ih3 (y + 1) f42 (by omega) (by omega) (fun x hx => by
                                  rw [← ef42, nI_clamp (by omega)]
                                  simp only [upd, show ¬ x = 7 * dn + 7 + y by omega, if_false]
                                  exact hG3 x hx) (fun z hz => by
                                  rw [← ef42, nI_clamp (by omega)]
                                  by_cases e9 : z = y
                                  · subst e9; simp only [upd, if_true]; rw [gaft, if_neg (fun q => q.elim (fun r => c36 (congrArg nI r)) (fun r => c39 (congrArg nI r)))]; rfl
                                  · simp only [upd, show ¬ 7 * dn + 7 + z = 7 * dn + 7 + y by omega, if_false]; exact hC z (by omega)) _ _ _ hW (lv_sub hl [1, 2, 3, 4, 5, 6, 7, 8, 9, 0] rfl)
                            · refine lv_iload (pc := 230) hx hb dX12_gossips_230 (lv_at hl 8 rfl) ?_
                              refine lv_goto (tgt := 245) (pc := 232) hx hb dX12_gossips_232 rfl ?_
                              obtain ⟨f43, ef43⟩ : ∃ fz : Nat → Int32, upd G3 (nI (7 * dn + 7 + y)).toNatClampNeg (G (7 * dn + ea) ||| G (7 * dn + eb)) = fz := ⟨_, rfl⟩
                              refine r_iast (ws' := [(h0, .inr (12, [.int i0, .ref b1, .int i2, .int i3, .int i4, .int i5, .ref b6, .ref b7, .ref b8, .ref b9, .ref b10, .ref b11, .ref b12, .ref b13, .ref b14, .ref b15, .ref b16, .ref b17, .int i18, .int i19, .int i20, .ref b21, .ref b22, .ref b23, .ref b24, .ref b25, .ref b26, .int i27, .ref b28, .ref b29, .ref b30, .ref b31, .ref b32, .ref b33, .ref b34, .ref b35, .ref b36, .int i37, .int i38, .int i39, .int i40, .int i41, .int i42, .int i43, .int i44, .int i45, .ref b46, .ref b47, .ref b48, .ref b49, .ref b50, .ref b51, .ref b52, .ref b53, .ref b54, .ref b55, .ref b56, .ref b57, .ref b58, .ref b59, .ref b60, .ref b61, .ref b62, .ref b63])), (b6, .inl (g.2.1 1, 11, .inl P)), (b7, .inl (g.2.1 1, 11, .inl Lc)), (b12, .inl (g.2.1 1, 132, .inl La)), (b13, .inl (g.2.1 1, 132, .inl Lb)), (b48, .inl (g.2.1 3, 12, .inl lw)), (b46, .inl (g.2.1 1, 112, .inl f43)), (b47, .inl (g.2.1 1, 16, .inl gr))]) X hW 6 rfl (vp_in_nI (by omega) (by decide)) ef43 rfl dX12_gossips_245 (fun H locs hW => ?_)
                              refine lv_iinc (v := nI (y + 1)) (lv' := [(9, .int (nI (y + 1))), (0, .ref h0), (1, .int (nI v)), (2, .int (nI dn)), (3, .int 8), (4, .int (nI (7 * dn))), (5, .int 0), (6, .int (nI i)), (7, .int (nI (12 * v + i))), (8, .int (G (7 * dn + ea) ||| G (7 * dn + eb)))]) (pc := 246) hx hb dX12_gossips_246 hl (k := 9) rfl ((nI_succ y).symm) (by decide) rfl (fun ls hl => ?_)
                              refine lv_goto (tgt := 183) (pc := 249) hx hb dX12_gossips_249 rfl ?_
                              have hW : WD g A s _ _ [(h0, .inr (12, [.int i0, .ref b1, .int i2, .int i3, .int i4, .int i5, .ref b6, .ref b7, .ref b8, .ref b9, .ref b10, .ref b11, .ref b12, .ref b13, .ref b14, .ref b15, .ref b16, .ref b17, .int i18, .int i19, .int i20, .ref b21, .ref b22, .ref b23, .ref b24, .ref b25, .ref b26, .int i27, .ref b28, .ref b29, .ref b30, .ref b31, .ref b32, .ref b33, .ref b34, .ref b35, .ref b36, .int i37, .int i38, .int i39, .int i40, .int i41, .int i42, .int i43, .int i44, .int i45, .ref b46, .ref b47, .ref b48, .ref b49, .ref b50, .ref b51, .ref b52, .ref b53, .ref b54, .ref b55, .ref b56, .ref b57, .ref b58, .ref b59, .ref b60, .ref b61, .ref b62, .ref b63])), (b6, .inl (g.2.1 1, 11, .inl P)), (b7, .inl (g.2.1 1, 11, .inl Lc)), (b12, .inl (g.2.1 1, 132, .inl La)), (b13, .inl (g.2.1 1, 132, .inl Lb)), (b48, .inl (g.2.1 3, 12, .inl lw)), (b46, .inl (g.2.1 1, 112, .inl f43)), (b47, .inl (g.2.1 1, 16, .inl gr))] := hW.pick [0, 1, 2, 3, 4, 5, 6, 7] rfl rfl
                              exact ih3 (y + 1) f43 (by omega) (by omega) (fun x hx => by
                                  rw [← ef43, nI_clamp (by omega)]
                                  simp only [upd, show ¬ x = 7 * dn + 7 + y by omega, if_false]
                                  exact hG3 x hx) (fun z hz => by
                                  rw [← ef43, nI_clamp (by omega)]
                                  by_cases e9 : z = y
                                  · subst e9; simp only [upd, if_true]; rw [gaft, if_pos (Or.inr (nI_inj6 (by omega) (by omega) c39))]; rfl
                                  · simp only [upd, show ¬ 7 * dn + 7 + z = 7 * dn + 7 + y by omega, if_false]; exact hC z (by omega)) _ _ _ hW (lv_sub hl [1, 2, 3, 4, 5, 6, 7, 8, 9, 0] rfl)
                    exact loop3 (pp + 1) 0 G2 (by omega) (Nat.zero_le _) hG2 (fun z hz => absurd hz (Nat.not_lt_zero z)) _ _ _ hW (lv_sub hl [3, 4, 5, 6, 7, 8, 9, 2, 1, 0] rfl)
                  · have h_eA := c23
                    refine lv_aload_n (pc := 157) hx hb dX12_gossips_157 rfl (lv_at hl 2 rfl) ?_
                    refine r_get X hW 0 ciX12 46 rfl (by decide) m_1273 rfl rfl dX12_gossips_158 ?_
                    refine lv_iload (pc := 161) hx hb dX12_gossips_161 (lv_at hl 6 rfl) ?_
                    refine lv_aload_n (pc := 163) hx hb dX12_gossips_163 rfl (lv_at hl 2 rfl) ?_
                    refine r_get X hW 0 ciX12 13 rfl (by decide) m_1244 rfl rfl dX12_gossips_164 ?_
                    refine lv_iload (pc := 167) hx hb dX12_gossips_167 (lv_at hl 1 rfl) ?_
                    refine r_iald X hW 4 rfl (vp_in_nI (by omega) (by decide)) dX12_gossips_169 ?_
                    refine lv_topi (fun uv44 euv44 => ?_)
                    obtain rfl : uv44 = nI eb := euv44.trans (by rw [nI_clamp (by omega)]; exact eB)
                    refine lv_iadd (pc := 170) hx hb dX12_gossips_170 ?_
                    refine lv_topi (fun uv45 euv45 => ?_)
                    obtain rfl : uv45 = nI (7 * dn + eb) := euv45.trans (nI_add _ _)
                    refine r_iald X hW 6 rfl (vp_in_nI (by omega) (by decide)) dX12_gossips_171 ?_
                    refine lv_topi (fun uv46 euv46 => ?_)
                    obtain rfl : uv46 = G (7 * dn + eb) := euv46.trans (by rw [nI_clamp (by omega)]; exact hG2 _ (by omega))
                    refine lv_iload (pc := 172) hx hb dX12_gossips_172 (lv_at hl 0 rfl) ?_
                    refine lv_icmp_ne (tgt := 180) (pc := 174) hx hb dX12_gossips_174 rfl (fun c47 => ?_) (fun c47 => ?_)
                    · refine lv_iconst (v := 0) (pc := 180) hx hb dX12_gossips_180 (by decide) ?_
                      refine lv_istore (lv' := [(9, .int 0), (8, .int (G (7 * dn + ea) ||| G (7 * dn + eb))), (7, .int (nI (12 * v + i))), (0, .ref h0), (1, .int (nI v)), (2, .int (nI dn)), (3, .int 8), (4, .int (nI (7 * dn))), (5, .int 0), (6, .int (nI i))]) (pc := 181) hx hb dX12_gossips_181 hl (by decide) rfl (fun ls hl => ?_)
                      have loop3 : ∀ (fx : Nat) (y : Nat) (G3 : Nat → Int32), (pp < fx + y) → (y ≤ pp) → (∀ x : Nat, x < 7 * (dn + 1) → G3 x = G x) → (∀ z : Nat, z < y → G3 (7 * dn + 7 + z) = gaft (rwt G dn) ea eb z) → ∀ (H : Heap) (locs : List Loc) (ls : Array Slot), WD g A s H locs [(h0, .inr (12, [.int i0, .ref b1, .int i2, .int i3, .int i4, .int i5, .ref b6, .ref b7, .ref b8, .ref b9, .ref b10, .ref b11, .ref b12, .ref b13, .ref b14, .ref b15, .ref b16, .ref b17, .int i18, .int i19, .int i20, .ref b21, .ref b22, .ref b23, .ref b24, .ref b25, .ref b26, .int i27, .ref b28, .ref b29, .ref b30, .ref b31, .ref b32, .ref b33, .ref b34, .ref b35, .ref b36, .int i37, .int i38, .int i39, .int i40, .int i41, .int i42, .int i43, .int i44, .int i45, .ref b46, .ref b47, .ref b48, .ref b49, .ref b50, .ref b51, .ref b52, .ref b53, .ref b54, .ref b55, .ref b56, .ref b57, .ref b58, .ref b59, .ref b60, .ref b61, .ref b62, .ref b63])), (b6, .inl (g.2.1 1, 11, .inl P)), (b7, .inl (g.2.1 1, 11, .inl Lc)), (b12, .inl (g.2.1 1, 132, .inl La)), (b13, .inl (g.2.1 1, 132, .inl Lb)), (b48, .inl (g.2.1 3, 12, .inl lw)), (b46, .inl (g.2.1 1, 112, .inl G3)), (b47, .inl (g.2.1 1, 16, .inl gr))] → lv_has ls 10 [(0, .ref h0), (1, .int (nI v)), (2, .int (nI dn)), (3, .int 8), (4, .int (nI (7 * dn))), (5, .int 0), (6, .int (nI i)), (7, .int (nI (12 * v + i))), (8, .int (G (7 * dn + ea) ||| G (7 * dn + eb))), (9, .int (nI y))] → W p l e (RM 9 0 0) s m args below meth c H locs 0 0 Q (F0 m 183 ls []) := by
                        intro fx
                        induction fx with
                        | zero =>
                          intro y G3 hm3 hy hG3 hC
                          exact absurd hm3 (by omega)
                        | succ fx ih3 =>
                          intro y G3 hm3 hy hG3 hC H locs ls hW hl
                          refine lv_iload (pc := 183) hx hb dX12_gossips_183 (lv_at hl 9 rfl) ?_
                          refine lv_aload_n (pc := 185) hx hb dX12_gossips_185 rfl (lv_at hl 0 rfl) ?_
                          refine r_get X hW 0 ciX12 6 rfl (by decide) m_1237 rfl rfl dX12_gossips_186 ?_
                          refine lv_iload_n (pc := 189) hx hb dX12_gossips_189 rfl (lv_at hl 1 rfl) ?_
                          refine r_iald X hW 1 rfl (vp_in_nI (by omega) (by decide)) dX12_gossips_190 ?_
                          refine lv_topi (fun uv48 euv48 => ?_)
                          obtain rfl : uv48 = nI pp := euv48.trans (by rw [nI_clamp (by omega)]; exact hP)
                          refine lv_icmp_ge (tgt := 252) (pc := 191) hx hb dX12_gossips_191 rfl (fun c49 => ?_) (fun c49 => ?_)
                          · have hyk : y = pp := Nat.le_antisymm hy (ge_t (by omega) (by omega) c49)
                            rw [hyk] at hC
                            refine lv_aload_n (pc := 252) hx hb dX12_gossips_252 rfl (lv_at hl 0 rfl) ?_
                            refine r_get X hW 0 ciX12 47 rfl (by decide) m_1274 rfl rfl dX12_gossips_253 ?_
                            refine lv_iload_n (pc := 256) hx hb dX12_gossips_256 rfl (lv_at hl 2 rfl) ?_
                            refine lv_iload (pc := 257) hx hb dX12_gossips_257 (lv_at hl 6 rfl) ?_
                            obtain ⟨f50, ef50⟩ : ∃ fz : Nat → Int32, upd gr (nI dn).toNatClampNeg (nI i) = fz := ⟨_, rfl⟩
                            refine r_iast (ws' := [(h0, .inr (12, [.int i0, .ref b1, .int i2, .int i3, .int i4, .int i5, .ref b6, .ref b7, .ref b8, .ref b9, .ref b10, .ref b11, .ref b12, .ref b13, .ref b14, .ref b15, .ref b16, .ref b17, .int i18, .int i19, .int i20, .ref b21, .ref b22, .ref b23, .ref b24, .ref b25, .ref b26, .int i27, .ref b28, .ref b29, .ref b30, .ref b31, .ref b32, .ref b33, .ref b34, .ref b35, .ref b36, .int i37, .int i38, .int i39, .int i40, .int i41, .int i42, .int i43, .int i44, .int i45, .ref b46, .ref b47, .ref b48, .ref b49, .ref b50, .ref b51, .ref b52, .ref b53, .ref b54, .ref b55, .ref b56, .ref b57, .ref b58, .ref b59, .ref b60, .ref b61, .ref b62, .ref b63])), (b6, .inl (g.2.1 1, 11, .inl P)), (b7, .inl (g.2.1 1, 11, .inl Lc)), (b12, .inl (g.2.1 1, 132, .inl La)), (b13, .inl (g.2.1 1, 132, .inl Lb)), (b48, .inl (g.2.1 3, 12, .inl lw)), (b46, .inl (g.2.1 1, 112, .inl G3)), (b47, .inl (g.2.1 1, 16, .inl f50))]) X hW 7 rfl (vp_in_nI (by omega) (by decide)) ef50 rfl dX12_gossips_259 (fun H locs hW => ?_)
                            have hg_f50 : gb16 f50 := by rw [← ef50]; exact gb16_upd hgr (by omega)
                            refine lv_aload_n (pc := 260) hx hb dX12_gossips_260 rfl (lv_at hl 0 rfl) ?_
                            refine lv_iload_n (pc := 261) hx hb dX12_gossips_261 rfl (lv_at hl 1 rfl) ?_
                            refine lv_iload_n (pc := 262) hx hb dX12_gossips_262 rfl (lv_at hl 2 rfl) ?_
                            refine lv_iconst (v := 1) (pc := 263) hx hb dX12_gossips_263 (by decide) ?_
                            refine lv_iadd (pc := 264) hx hb dX12_gossips_264 ?_
                            refine lv_topi (fun uv51 euv51 => ?_)
                            obtain rfl : uv51 = nI (dn + 1) := euv51.trans (nI_1 _)
                            refine lv_iload_n (pc := 265) hx hb dX12_gossips_265 rfl (lv_at hl 3 rfl) ?_
                            refine lv_iconst (v := 1) (pc := 266) hx hb dX12_gossips_266 (by decide) ?_
                            refine lv_isub (pc := 267) hx hb dX12_gossips_267 ?_
                            refine lv_topi (fun uv52 euv52 => ?_)
                            obtain rfl : uv52 = 7 := euv52.trans (by decide +kernel)
                            refine c_Vi (pc := 268) (As := [.int (nI v), .int (nI (dn + 1)), .int 7]) (rest := []) (wr := []) X hW 0 ciX12 rfl (C_X12_gossips_7 l g h0 b1 b6 b7 b8 b9 b10 b11 b12 b13 b14 b15 b16 b17 b21 b22 b23 b24 b25 b26 b28 b29 b30 b31 b32 b33 b34 b35 b36 b46 b47 b48 b49 b50 b51 b52 b53 b54 b55 b56 b57 b58 b59 b60 b61 b62 b63 i0 i2 i3 i4 i5 i18 i19 i20 i27 i37 i38 i39 i40 i41 i42 i43 i44 i45 P Lc La Lb lw G3 f50 v lc pp (dn + 1) hv hlc hpp hP hLc hLA hLB hg_f50 (by omega)) vX12_346 [0, 1, 2, 3, 4, 5, 6, 7] [] rfl rfl rfl rfl rfl rfl hl.1 rfl (Nat.le_of_ble_eq_true rfl) ⟨Nat.le_of_ble_eq_true rfl, Nat.le_of_ble_eq_true rfl⟩ ⟨Nat.le_of_ble_eq_true rfl, Nat.le_of_ble_eq_true rfl⟩ dX12_gossips_268 (fun r55 u9 H locs hq hW => ?_)
                            obtain ⟨gq53, gw54, -, hq1_gq53, hq2_gq53, hgw54, rfl⟩ := hq
                            have hW : WD g A s _ _ [(h0, .inr (12, [.int i0, .ref b1, .int i2, .int i3, .int i4, .int i5, .ref b6, .ref b7, .ref b8, .ref b9, .ref b10, .ref b11, .ref b12, .ref b13, .ref b14, .ref b15, .ref b16, .ref b17, .int i18, .int i19, .int i20, .ref b21, .ref b22, .ref b23, .ref b24, .ref b25, .ref b26, .int i27, .ref b28, .ref b29, .ref b30, .ref b31, .ref b32, .ref b33, .ref b34, .ref b35, .ref b36, .int i37, .int i38, .int i39, .int i40, .int i41, .int i42, .int i43, .int i44, .int i45, .ref b46, .ref b47, .ref b48, .ref b49, .ref b50, .ref b51, .ref b52, .ref b53, .ref b54, .ref b55, .ref b56, .ref b57, .ref b58, .ref b59, .ref b60, .ref b61, .ref b62, .ref b63])), (b6, .inl (g.2.1 1, 11, .inl P)), (b7, .inl (g.2.1 1, 11, .inl Lc)), (b12, .inl (g.2.1 1, 132, .inl La)), (b13, .inl (g.2.1 1, 132, .inl Lb)), (b48, .inl (g.2.1 3, 12, .inl lw)), (b46, .inl (g.2.1 1, 112, .inl gq53)), (b47, .inl (g.2.1 1, 16, .inl gw54))] := hW
                            refine lv_if_eq (tgt := 276) (pc := 271) hx hb dX12_gossips_271 rfl (fun c56 => ?_) (fun c56 => ?_)
                            · refine lv_iinc (v := nI (i + 1)) (lv' := [(6, .int (nI (i + 1))), (0, .ref h0), (1, .int (nI v)), (2, .int (nI dn)), (3, .int 8), (4, .int (nI (7 * dn))), (5, .int 0), (7, .int (nI (12 * v + i))), (8, .int (G (7 * dn + ea) ||| G (7 * dn + eb))), (9, .int (nI y))]) (pc := 276) hx hb dX12_gossips_276 hl (k := 6) rfl ((nI_succ i).symm) (by decide) rfl (fun ls hl => ?_)
                              refine lv_goto (tgt := 74) (pc := 279) hx hb dX12_gossips_279 rfl ?_
                              have hW : WD g A s _ _ [(h0, .inr (12, [.int i0, .ref b1, .int i2, .int i3, .int i4, .int i5, .ref b6, .ref b7, .ref b8, .ref b9, .ref b10, .ref b11, .ref b12, .ref b13, .ref b14, .ref b15, .ref b16, .ref b17, .int i18, .int i19, .int i20, .ref b21, .ref b22, .ref b23, .ref b24, .ref b25, .ref b26, .int i27, .ref b28, .ref b29, .ref b30, .ref b31, .ref b32, .ref b33, .ref b34, .ref b35, .ref b36, .int i37, .int i38, .int i39, .int i40, .int i41, .int i42, .int i43, .int i44, .int i45, .ref b46, .ref b47, .ref b48, .ref b49, .ref b50, .ref b51, .ref b52, .ref b53, .ref b54, .ref b55, .ref b56, .ref b57, .ref b58, .ref b59, .ref b60, .ref b61, .ref b62, .ref b63])), (b6, .inl (g.2.1 1, 11, .inl P)), (b7, .inl (g.2.1 1, 11, .inl Lc)), (b12, .inl (g.2.1 1, 132, .inl La)), (b13, .inl (g.2.1 1, 132, .inl Lb)), (b48, .inl (g.2.1 3, 12, .inl lw)), (b46, .inl (g.2.1 1, 112, .inl gq53)), (b47, .inl (g.2.1 1, 16, .inl gw54))] := hW.pick [0, 1, 2, 3, 4, 5, 6, 7] rfl rfl
                              exact ih2 (i + 1) gq53 gw54 (by omega) (by omega) (fun x hx => (hq2_gq53 x (by omega)).trans (hG3 x hx)) hgw54 (gno_s hno (by omega) hea heb eA eB (fun ha9 hb9 hw9 hu9 => fun hg9 => absurd (hq1_gq53 (gok_cong hg9 (fun o ho => (hC o ho).symm))) (by rw [c56]; decide))) _ _ _ hW (lv_sub hl [1, 2, 3, 4, 5, 6, 0] rfl)
                            · refine lv_iconst (v := 1) (pc := 274) hx hb dX12_gossips_274 (by decide) ?_
                              exact e_z X hQ hr hW (u := [(h0, .inr (12, [.int i0, .ref b1, .int i2, .int i3, .int i4, .int i5, .ref b6, .ref b7, .ref b8, .ref b9, .ref b10, .ref b11, .ref b12, .ref b13, .ref b14, .ref b15, .ref b16, .ref b17, .int i18, .int i19, .int i20, .ref b21, .ref b22, .ref b23, .ref b24, .ref b25, .ref b26, .int i27, .ref b28, .ref b29, .ref b30, .ref b31, .ref b32, .ref b33, .ref b34, .ref b35, .ref b36, .int i37, .int i38, .int i39, .int i40, .int i41, .int i42, .int i43, .int i44, .int i45, .ref b46, .ref b47, .ref b48, .ref b49, .ref b50, .ref b51, .ref b52, .ref b53, .ref b54, .ref b55, .ref b56, .ref b57, .ref b58, .ref b59, .ref b60, .ref b61, .ref b62, .ref b63])), (b6, .inl (g.2.1 1, 11, .inl P)), (b7, .inl (g.2.1 1, 11, .inl Lc)), (b12, .inl (g.2.1 1, 132, .inl La)), (b13, .inl (g.2.1 1, 132, .inl Lb)), (b48, .inl (g.2.1 3, 12, .inl lw)), (b46, .inl (g.2.1 1, 112, .inl gq53)), (b47, .inl (g.2.1 1, 16, .inl gw54))]) rfl [0, 1, 2, 3, 4, 5, 6, 7] rfl rfl (⟨_, _, Or.inr rfl, fun _ => rfl, fun x hx => (hq2_gq53 x (by omega)).trans (hG3 x hx), hgw54, rfl⟩) ⟨Nat.le_of_ble_eq_true rfl, Nat.le_of_ble_eq_true rfl⟩ dX12_gossips_275
                          · have hyl : y < pp := ge_f (by omega) (by omega) c49
                            refine lv_aload_n (pc := 194) hx hb dX12_gossips_194 rfl (lv_at hl 0 rfl) ?_
                            refine r_get X hW 0 ciX12 46 rfl (by decide) m_1273 rfl rfl dX12_gossips_195 ?_
                            refine lv_iload (pc := 198) hx hb dX12_gossips_198 (lv_at hl 4 rfl) ?_
                            refine lv_bipush (v := 7) (pc := 200) hx hb dX12_gossips_200 (by decide) ?_
                            refine lv_iadd (pc := 202) hx hb dX12_gossips_202 ?_
                            refine lv_topi (fun uv57 euv57 => ?_)
                            obtain rfl : uv57 = nI (7 * dn + 7) := euv57.trans (nI_add _ _)
                            refine lv_iload (pc := 203) hx hb dX12_gossips_203 (lv_at hl 9 rfl) ?_
                            refine lv_iadd (pc := 205) hx hb dX12_gossips_205 ?_
                            refine lv_topi (fun uv58 euv58 => ?_)
                            obtain rfl : uv58 = nI (7 * dn + 7 + y) := euv58.trans (nI_add _ _)
                            refine lv_iload (pc := 206) hx hb dX12_gossips_206 (lv_at hl 9 rfl) ?_
                            refine lv_aload_n (pc := 208) hx hb dX12_gossips_208 rfl (lv_at hl 0 rfl) ?_
                            refine r_get X hW 0 ciX12 12 rfl (by decide) m_1243 rfl rfl dX12_gossips_209 ?_
                            refine lv_iload (pc := 212) hx hb dX12_gossips_212 (lv_at hl 7 rfl) ?_
                            refine r_iald X hW 3 rfl (vp_in_nI (by omega) (by decide)) dX12_gossips_214 ?_
                            refine lv_topi (fun uv59 euv59 => ?_)
                            obtain rfl : uv59 = nI ea := euv59.trans (by rw [nI_clamp (by omega)]; exact eA)
                            refine lv_icmp_eq (tgt := 230) (pc := 215) hx hb dX12_gossips_215 rfl (fun c60 => ?_) (fun c60 => ?_)
                            · refine lv_iload (pc := 230) hx hb dX12_gossips_230 (lv_at hl 8 rfl) ?_
                              refine lv_goto (tgt := 245) (pc := 232) hx hb dX12_gossips_232 rfl ?_
                              obtain ⟨f61, ef61⟩ : ∃ fz : Nat → Int32, upd G3 (nI (7 * dn + 7 + y)).toNatClampNeg (G (7 * dn + ea) ||| G (7 * dn + eb)) = fz := ⟨_, rfl⟩
                              refine r_iast (ws' := [(h0, .inr (12, [.int i0, .ref b1, .int i2, .int i3, .int i4, .int i5, .ref b6, .ref b7, .ref b8, .ref b9, .ref b10, .ref b11, .ref b12, .ref b13, .ref b14, .ref b15, .ref b16, .ref b17, .int i18, .int i19, .int i20, .ref b21, .ref b22, .ref b23, .ref b24, .ref b25, .ref b26, .int i27, .ref b28, .ref b29, .ref b30, .ref b31, .ref b32, .ref b33, .ref b34, .ref b35, .ref b36, .int i37, .int i38, .int i39, .int i40, .int i41, .int i42, .int i43, .int i44, .int i45, .ref b46, .ref b47, .ref b48, .ref b49, .ref b50, .ref b51, .ref b52, .ref b53, .ref b54, .ref b55, .ref b56, .ref b57, .ref b58, .ref b59, .ref b60, .ref b61, .ref b62, .ref b63])), (b6, .inl (g.2.1 1, 11, .inl P)), (b7, .inl (g.2.1 1, 11, .inl Lc)), (b12, .inl (g.2.1 1, 132, .inl La)), (b13, .inl (g.2.1 1, 132, .inl Lb)), (b48, .inl (g.2.1 3, 12, .inl lw)), (b46, .inl (g.2.1 1, 112, .inl f61)), (b47, .inl (g.2.1 1, 16, .inl gr))]) X hW 6 rfl (vp_in_nI (by omega) (by decide)) ef61 rfl dX12_gossips_245 (fun H locs hW => ?_)
                              refine lv_iinc (v := nI (y + 1)) (lv' := [(9, .int (nI (y + 1))), (0, .ref h0), (1, .int (nI v)), (2, .int (nI dn)), (3, .int 8), (4, .int (nI (7 * dn))), (5, .int 0), (6, .int (nI i)), (7, .int (nI (12 * v + i))), (8, .int (G (7 * dn + ea) ||| G (7 * dn + eb)))]) (pc := 246) hx hb dX12_gossips_246 hl (k := 9) rfl ((nI_succ y).symm) (by decide) rfl (fun ls hl => ?_)
                              refine lv_goto (tgt := 183) (pc := 249) hx hb dX12_gossips_249 rfl ?_
                              have hW : WD g A s _ _ [(h0, .inr (12, [.int i0, .ref b1, .int i2, .int i3, .int i4, .int i5, .ref b6, .ref b7, .ref b8, .ref b9, .ref b10, .ref b11, .ref b12, .ref b13, .ref b14, .ref b15, .ref b16, .ref b17, .int i18, .int i19, .int i20, .ref b21, .ref b22, .ref b23, .ref b24, .ref b25, .ref b26, .int i27, .ref b28, .ref b29, .ref b30, .ref b31, .ref b32, .ref b33, .ref b34, .ref b35, .ref b36, .int i37, .int i38, .int i39, .int i40, .int i41, .int i42, .int i43, .int i44, .int i45, .ref b46, .ref b47, .ref b48, .ref b49, .ref b50, .ref b51, .ref b52, .ref b53, .ref b54, .ref b55, .ref b56, .ref b57, .ref b58, .ref b59, .ref b60, .ref b61, .ref b62, .ref b63])), (b6, .inl (g.2.1 1, 11, .inl P)), (b7, .inl (g.2.1 1, 11, .inl Lc)), (b12, .inl (g.2.1 1, 132, .inl La)), (b13, .inl (g.2.1 1, 132, .inl Lb)), (b48, .inl (g.2.1 3, 12, .inl lw)), (b46, .inl (g.2.1 1, 112, .inl f61)), (b47, .inl (g.2.1 1, 16, .inl gr))] := hW.pick [0, 1, 2, 3, 4, 5, 6, 7] rfl rfl
                              exact ih3 (y + 1) f61 (by omega) (by omega) (fun x hx => by
                                  rw [← ef61, nI_clamp (by omega)]
                                  simp only [upd, show ¬ x = 7 * dn + 7 + y by omega, if_false]
                                  exact hG3 x hx) (fun z hz => by
                                  rw [← ef61, nI_clamp (by omega)]
                                  by_cases e9 : z = y
                                  · subst e9; simp only [upd, if_true]; rw [gaft, if_pos (Or.inl (nI_inj6 (by omega) (by omega) c60))]; rfl
                                  · simp only [upd, show ¬ 7 * dn + 7 + z = 7 * dn + 7 + y by omega, if_false]; exact hC z (by omega)) _ _ _ hW (lv_sub hl [1, 2, 3, 4, 5, 6, 7, 8, 9, 0] rfl)
                            · refine lv_iload (pc := 218) hx hb dX12_gossips_218 (lv_at hl 9 rfl) ?_
                              refine lv_aload_n (pc := 220) hx hb dX12_gossips_220 rfl (lv_at hl 0 rfl) ?_
                              refine r_get X hW 0 ciX12 13 rfl (by decide) m_1244 rfl rfl dX12_gossips_221 ?_
                              refine lv_iload (pc := 224) hx hb dX12_gossips_224 (lv_at hl 7 rfl) ?_
                              refine r_iald X hW 4 rfl (vp_in_nI (by omega) (by decide)) dX12_gossips_226 ?_
                              refine lv_topi (fun uv62 euv62 => ?_)
                              obtain rfl : uv62 = nI eb := euv62.trans (by rw [nI_clamp (by omega)]; exact eB)
                              refine lv_icmp_ne (tgt := 235) (pc := 227) hx hb dX12_gossips_227 rfl (fun c63 => ?_) (fun c63 => ?_)
                              · refine lv_aload_n (pc := 235) hx hb dX12_gossips_235 rfl (lv_at hl 0 rfl) ?_
                                refine r_get X hW 0 ciX12 46 rfl (by decide) m_1273 rfl rfl dX12_gossips_236 ?_
                                refine lv_iload (pc := 239) hx hb dX12_gossips_239 (lv_at hl 4 rfl) ?_
                                refine lv_iload (pc := 241) hx hb dX12_gossips_241 (lv_at hl 9 rfl) ?_
                                refine lv_iadd (pc := 243) hx hb dX12_gossips_243 ?_
                                refine lv_topi (fun uv64 euv64 => ?_)
                                obtain rfl : uv64 = nI (7 * dn + y) := euv64.trans (nI_add _ _)
                                refine r_iald X hW 6 rfl (vp_in_nI (by omega) (by decide)) dX12_gossips_244 ?_
                                refine lv_topi (fun uv65 euv65 => ?_)
                                obtain rfl : uv65 = G (7 * dn + y) := euv65.trans (by rw [nI_clamp (by omega)]; exact hG3 _ (by omega))
                                obtain ⟨f66, ef66⟩ : ∃ fz : Nat → Int32, upd G3 (nI (7 * dn + 7 + y)).toNatClampNeg (G (7 * dn + y)) = fz := ⟨_, rfl⟩
                                refine r_iast (ws' := [(h0, .inr (12, [.int i0, .ref b1, .int i2, .int i3, .int i4, .int i5, .ref b6, .ref b7, .ref b8, .ref b9, .ref b10, .ref b11, .ref b12, .ref b13, .ref b14, .ref b15, .ref b16, .ref b17, .int i18, .int i19, .int i20, .ref b21, .ref b22, .ref b23, .ref b24, .ref b25, .ref b26, .int i27, .ref b28, .ref b29, .ref b30, .ref b31, .ref b32, .ref b33, .ref b34, .ref b35, .ref b36, .int i37, .int i38, .int i39, .int i40, .int i41, .int i42, .int i43, .int i44, .int i45, .ref b46, .ref b47, .ref b48, .ref b49, .ref b50, .ref b51, .ref b52, .ref b53, .ref b54, .ref b55, .ref b56, .ref b57, .ref b58, .ref b59, .ref b60, .ref b61, .ref b62, .ref b63])), (b6, .inl (g.2.1 1, 11, .inl P)), (b7, .inl (g.2.1 1, 11, .inl Lc)), (b12, .inl (g.2.1 1, 132, .inl La)), (b13, .inl (g.2.1 1, 132, .inl Lb)), (b48, .inl (g.2.1 3, 12, .inl lw)), (b46, .inl (g.2.1 1, 112, .inl f66)), (b47, .inl (g.2.1 1, 16, .inl gr))]) X hW 6 rfl (vp_in_nI (by omega) (by decide)) ef66 rfl dX12_gossips_245 (fun H locs hW => ?_)
                                refine lv_iinc (v := nI (y + 1)) (lv' := [(9, .int (nI (y + 1))), (0, .ref h0), (1, .int (nI v)), (2, .int (nI dn)), (3, .int 8), (4, .int (nI (7 * dn))), (5, .int 0), (6, .int (nI i)), (7, .int (nI (12 * v + i))), (8, .int (G (7 * dn + ea) ||| G (7 * dn + eb)))]) (pc := 246) hx hb dX12_gossips_246 hl (k := 9) rfl ((nI_succ y).symm) (by decide) rfl (fun ls hl => ?_)
                                refine lv_goto (tgt := 183) (pc := 249) hx hb dX12_gossips_249 rfl ?_
                                have hW : WD g A s _ _ [(h0, .inr (12, [.int i0, .ref b1, .int i2, .int i3, .int i4, .int i5, .ref b6, .ref b7, .ref b8, .ref b9, .ref b10, .ref b11, .ref b12, .ref b13, .ref b14, .ref b15, .ref b16, .ref b17, .int i18, .int i19, .int i20, .ref b21, .ref b22, .ref b23, .ref b24, .ref b25, .ref b26, .int i27, .ref b28, .ref b29, .ref b30, .ref b31, .ref b32, .ref b33, .ref b34, .ref b35, .ref b36, .int i37, .int i38, .int i39, .int i40, .int i41, .int i42, .int i43, .int i44, .int i45, .ref b46, .ref b47, .ref b48, .ref b49, .ref b50, .ref b51, .ref b52, .ref b53, .ref b54, .ref b55, .ref b56, .ref b57, .ref b58, .ref b59, .ref b60, .ref b61, .ref b62, .ref b63])), (b6, .inl (g.2.1 1, 11, .inl P)), (b7, .inl (g.2.1 1, 11, .inl Lc)), (b12, .inl (g.2.1 1, 132, .inl La)), (b13, .inl (g.2.1 1, 132, .inl Lb)), (b48, .inl (g.2.1 3, 12, .inl lw)), (b46, .inl (g.2.1 1, 112, .inl f66)), (b47, .inl (g.2.1 1, 16, .inl gr))] := hW.pick [0, 1, 2, 3, 4, 5, 6, 7] rfl rfl
                                exact ih3 (y + 1) f66 (by omega) (by omega) (fun x hx => by
                                    rw [← ef66, nI_clamp (by omega)]
                                    simp only [upd, show ¬ x = 7 * dn + 7 + y by omega, if_false]
                                    exact hG3 x hx) (fun z hz => by
                                    rw [← ef66, nI_clamp (by omega)]
                                    by_cases e9 : z = y
                                    · subst e9; simp only [upd, if_true]; rw [gaft, if_neg (fun q => q.elim (fun r => c60 (congrArg nI r)) (fun r => c63 (congrArg nI r)))]; rfl
                                    · simp only [upd, show ¬ 7 * dn + 7 + z = 7 * dn + 7 + y by omega, if_false]; exact hC z (by omega)) _ _ _ hW (lv_sub hl [1, 2, 3, 4, 5, 6, 7, 8, 9, 0] rfl)
                              · refine lv_iload (pc := 230) hx hb dX12_gossips_230 (lv_at hl 8 rfl) ?_
                                refine lv_goto (tgt := 245) (pc := 232) hx hb dX12_gossips_232 rfl ?_
                                obtain ⟨f67, ef67⟩ : ∃ fz : Nat → Int32, upd G3 (nI (7 * dn + 7 + y)).toNatClampNeg (G (7 * dn + ea) ||| G (7 * dn + eb)) = fz := ⟨_, rfl⟩
                                refine r_iast (ws' := [(h0, .inr (12, [.int i0, .ref b1, .int i2, .int i3, .int i4, .int i5, .ref b6, .ref b7, .ref b8, .ref b9, .ref b10, .ref b11, .ref b12, .ref b13, .ref b14, .ref b15, .ref b16, .ref b17, .int i18, .int i19, .int i20, .ref b21, .ref b22, .ref b23, .ref b24, .ref b25, .ref b26, .int i27, .ref b28, .ref b29, .ref b30, .ref b31, .ref b32, .ref b33, .ref b34, .ref b35, .ref b36, .int i37, .int i38, .int i39, .int i40, .int i41, .int i42, .int i43, .int i44, .int i45, .ref b46, .ref b47, .ref b48, .ref b49, .ref b50, .ref b51, .ref b52, .ref b53, .ref b54, .ref b55, .ref b56, .ref b57, .ref b58, .ref b59, .ref b60, .ref b61, .ref b62, .ref b63])), (b6, .inl (g.2.1 1, 11, .inl P)), (b7, .inl (g.2.1 1, 11, .inl Lc)), (b12, .inl (g.2.1 1, 132, .inl La)), (b13, .inl (g.2.1 1, 132, .inl Lb)), (b48, .inl (g.2.1 3, 12, .inl lw)), (b46, .inl (g.2.1 1, 112, .inl f67)), (b47, .inl (g.2.1 1, 16, .inl gr))]) X hW 6 rfl (vp_in_nI (by omega) (by decide)) ef67 rfl dX12_gossips_245 (fun H locs hW => ?_)
                                refine lv_iinc (v := nI (y + 1)) (lv' := [(9, .int (nI (y + 1))), (0, .ref h0), (1, .int (nI v)), (2, .int (nI dn)), (3, .int 8), (4, .int (nI (7 * dn))), (5, .int 0), (6, .int (nI i)), (7, .int (nI (12 * v + i))), (8, .int (G (7 * dn + ea) ||| G (7 * dn + eb)))]) (pc := 246) hx hb dX12_gossips_246 hl (k := 9) rfl ((nI_succ y).symm) (by decide) rfl (fun ls hl => ?_)
                                refine lv_goto (tgt := 183) (pc := 249) hx hb dX12_gossips_249 rfl ?_
                                have hW : WD g A s _ _ [(h0, .inr (12, [.int i0, .ref b1, .int i2, .int i3, .int i4, .int i5, .ref b6, .ref b7, .ref b8, .ref b9, .ref b10, .ref b11, .ref b12, .ref b13, .ref b14, .ref b15, .ref b16, .ref b17, .int i18, .int i19, .int i20, .ref b21, .ref b22, .ref b23, .ref b24, .ref b25, .ref b26, .int i27, .ref b28, .ref b29, .ref b30, .ref b31, .ref b32, .ref b33, .ref b34, .ref b35, .ref b36, .int i37, .int i38, .int i39, .int i40, .int i41, .int i42, .int i43, .int i44, .int i45, .ref b46, .ref b47, .ref b48, .ref b49, .ref b50, .ref b51, .ref b52, .ref b53, .ref b54, .ref b55, .ref b56, .ref b57, .ref b58, .ref b59, .ref b60, .ref b61, .ref b62, .ref b63])), (b6, .inl (g.2.1 1, 11, .inl P)), (b7, .inl (g.2.1 1, 11, .inl Lc)), (b12, .inl (g.2.1 1, 132, .inl La)), (b13, .inl (g.2.1 1, 132, .inl Lb)), (b48, .inl (g.2.1 3, 12, .inl lw)), (b46, .inl (g.2.1 1, 112, .inl f67)), (b47, .inl (g.2.1 1, 16, .inl gr))] := hW.pick [0, 1, 2, 3, 4, 5, 6, 7] rfl rfl
                                exact ih3 (y + 1) f67 (by omega) (by omega) (fun x hx => by
                                    rw [← ef67, nI_clamp (by omega)]
                                    simp only [upd, show ¬ x = 7 * dn + 7 + y by omega, if_false]
                                    exact hG3 x hx) (fun z hz => by
                                    rw [← ef67, nI_clamp (by omega)]
                                    by_cases e9 : z = y
                                    · subst e9; simp only [upd, if_true]; rw [gaft, if_pos (Or.inr (nI_inj6 (by omega) (by omega) c63))]; rfl
                                    · simp only [upd, show ¬ 7 * dn + 7 + z = 7 * dn + 7 + y by omega, if_false]; exact hC z (by omega)) _ _ _ hW (lv_sub hl [1, 2, 3, 4, 5, 6, 7, 8, 9, 0] rfl)
                      exact loop3 (pp + 1) 0 G2 (by omega) (Nat.zero_le _) hG2 (fun z hz => absurd hz (Nat.not_lt_zero z)) _ _ _ hW (lv_sub hl [3, 4, 5, 6, 7, 8, 9, 2, 1, 0] rfl)
                    · refine lv_goto (tgt := 276) (pc := 177) hx hb dX12_gossips_177 rfl ?_
                      refine lv_iinc (v := nI (i + 1)) (lv' := [(6, .int (nI (i + 1))), (8, .int (G (7 * dn + ea) ||| G (7 * dn + eb))), (7, .int (nI (12 * v + i))), (0, .ref h0), (1, .int (nI v)), (2, .int (nI dn)), (3, .int 8), (4, .int (nI (7 * dn))), (5, .int 0)]) (pc := 276) hx hb dX12_gossips_276 hl (k := 8) rfl ((nI_succ i).symm) (by decide) rfl (fun ls hl => ?_)
                      refine lv_goto (tgt := 74) (pc := 279) hx hb dX12_gossips_279 rfl ?_
                      have hW : WD g A s _ _ [(h0, .inr (12, [.int i0, .ref b1, .int i2, .int i3, .int i4, .int i5, .ref b6, .ref b7, .ref b8, .ref b9, .ref b10, .ref b11, .ref b12, .ref b13, .ref b14, .ref b15, .ref b16, .ref b17, .int i18, .int i19, .int i20, .ref b21, .ref b22, .ref b23, .ref b24, .ref b25, .ref b26, .int i27, .ref b28, .ref b29, .ref b30, .ref b31, .ref b32, .ref b33, .ref b34, .ref b35, .ref b36, .int i37, .int i38, .int i39, .int i40, .int i41, .int i42, .int i43, .int i44, .int i45, .ref b46, .ref b47, .ref b48, .ref b49, .ref b50, .ref b51, .ref b52, .ref b53, .ref b54, .ref b55, .ref b56, .ref b57, .ref b58, .ref b59, .ref b60, .ref b61, .ref b62, .ref b63])), (b6, .inl (g.2.1 1, 11, .inl P)), (b7, .inl (g.2.1 1, 11, .inl Lc)), (b12, .inl (g.2.1 1, 132, .inl La)), (b13, .inl (g.2.1 1, 132, .inl Lb)), (b48, .inl (g.2.1 3, 12, .inl lw)), (b46, .inl (g.2.1 1, 112, .inl G2)), (b47, .inl (g.2.1 1, 16, .inl gr))] := hW.pick [0, 1, 2, 3, 4, 5, 6, 7] rfl rfl
                      exact ih2 (i + 1) G2 gr (by omega) (by omega) (hG2) hgr (gno_s hno (by omega) hea heb eA eB (fun ha9 hb9 hw9 hu9 => absurd ⟨h_eA, c47⟩ hu9)) _ _ _ hW (lv_sub hl [3, 4, 5, 6, 7, 8, 0] rfl)
          exact loop2 (lc + 1) 0 G gr0 (by omega) (Nat.zero_le _) (fun x hx => rfl) hg0 gno_0 _ _ _ hW (lv_sub hl [1, 2, 3, 4, 5, 6, 0] rfl)
      · have hkl : k < pp := ge_f (by omega) (by omega) c3
        refine lv_iload (pc := 23) hx hb dX12_gossips_23 (lv_at hl 5 rfl) ?_
        refine lv_if_eq (tgt := 50) (pc := 25) hx hb dX12_gossips_25 rfl (fun c68 => ?_) (fun c68 => ?_)
        · refine lv_iconst (v := 0) (pc := 50) hx hb dX12_gossips_50 (by decide) ?_
          refine lv_istore (lv' := [(5, .int 0), (0, .ref h0), (1, .int (nI v)), (2, .int (nI dn)), (3, .int 8), (4, .int (nI (7 * dn))), (6, .int (nI k))]) (pc := 51) hx hb dX12_gossips_51 hl (by decide) rfl (fun ls hl => ?_)
          refine lv_iinc (v := nI (k + 1)) (lv' := [(6, .int (nI (k + 1))), (5, .int 0), (0, .ref h0), (1, .int (nI v)), (2, .int (nI dn)), (3, .int 8), (4, .int (nI (7 * dn)))]) (pc := 53) hx hb dX12_gossips_53 hl (k := 6) rfl ((nI_succ k).symm) (by decide) rfl (fun ls hl => ?_)
          refine lv_goto (tgt := 12) (pc := 56) hx hb dX12_gossips_56 rfl ?_
          have hW : WD g A s _ _ [(h0, .inr (12, [.int i0, .ref b1, .int i2, .int i3, .int i4, .int i5, .ref b6, .ref b7, .ref b8, .ref b9, .ref b10, .ref b11, .ref b12, .ref b13, .ref b14, .ref b15, .ref b16, .ref b17, .int i18, .int i19, .int i20, .ref b21, .ref b22, .ref b23, .ref b24, .ref b25, .ref b26, .int i27, .ref b28, .ref b29, .ref b30, .ref b31, .ref b32, .ref b33, .ref b34, .ref b35, .ref b36, .int i37, .int i38, .int i39, .int i40, .int i41, .int i42, .int i43, .int i44, .int i45, .ref b46, .ref b47, .ref b48, .ref b49, .ref b50, .ref b51, .ref b52, .ref b53, .ref b54, .ref b55, .ref b56, .ref b57, .ref b58, .ref b59, .ref b60, .ref b61, .ref b62, .ref b63])), (b6, .inl (g.2.1 1, 11, .inl P)), (b7, .inl (g.2.1 1, 11, .inl Lc)), (b12, .inl (g.2.1 1, 132, .inl La)), (b13, .inl (g.2.1 1, 132, .inl Lb)), (b48, .inl (g.2.1 3, 12, .inl lw)), (b46, .inl (g.2.1 1, 112, .inl G)), (b47, .inl (g.2.1 1, 16, .inl gr0))] := hW.pick [0, 1, 2, 3, 4, 5, 6, 7] rfl rfl
          exact ih1 (k + 1) 0 (by omega) (by omega) (Or.inr ⟨rfl, (hal.resolve_left (fun r => absurd (r.1.symm.trans c68) (by decide))).2⟩) _ _ _ hW (lv_sub hl [2, 3, 4, 5, 6, 1, 0] rfl)
        · have hal9 : ¬ al = 0 := c68
          have hal1 : ¬ al = 0 → ∀ o : Nat, o < k → (rwt G dn) o = evy (nI pp) := fun q => (hal.resolve_right (fun r => q r.1)).2
          refine lv_aload_n (pc := 28) hx hb dX12_gossips_28 rfl (lv_at hl 0 rfl) ?_
          refine r_get X hW 0 ciX12 46 rfl (by decide) m_1273 rfl rfl dX12_gossips_29 ?_
          refine lv_iload (pc := 32) hx hb dX12_gossips_32 (lv_at hl 4 rfl) ?_
          refine lv_iload (pc := 34) hx hb dX12_gossips_34 (lv_at hl 6 rfl) ?_
          refine lv_iadd (pc := 36) hx hb dX12_gossips_36 ?_
          refine lv_topi (fun uv69 euv69 => ?_)
          obtain rfl : uv69 = nI (7 * dn + k) := euv69.trans (nI_add _ _)
          refine r_iald X hW 6 rfl (vp_in_nI (by omega) (by decide)) dX12_gossips_37 ?_
          refine lv_topi (fun uv70 euv70 => ?_)
          obtain rfl : uv70 = G (7 * dn + k) := euv70.trans (by rw [nI_clamp (by omega)])
          refine lv_aload_n (pc := 38) hx hb dX12_gossips_38 rfl (lv_at hl 0 rfl) ?_
          refine lv_iload_n (pc := 39) hx hb dX12_gossips_39 rfl (lv_at hl 1 rfl) ?_
          refine c_Vi (pc := 40) (As := [.int (nI v)]) (rest := [.int (G (7 * dn + k))]) (wr := [(b7, .inl (g.2.1 1, 11, .inl Lc)), (b12, .inl (g.2.1 1, 132, .inl La)), (b13, .inl (g.2.1 1, 132, .inl Lb)), (b48, .inl (g.2.1 3, 12, .inl lw)), (b46, .inl (g.2.1 1, 112, .inl G)), (b47, .inl (g.2.1 1, 16, .inl gr0))]) X hW 0 ciX12 rfl (C_X12_everybodyG l g h0 b1 b6 b7 b8 b9 b10 b11 b12 b13 b14 b15 b16 b17 b21 b22 b23 b24 b25 b26 b28 b29 b30 b31 b32 b33 b34 b35 b36 b46 b47 b48 b49 b50 b51 b52 b53 b54 b55 b56 b57 b58 b59 b60 b61 b62 b63 i0 i2 i3 i4 i5 i18 i19 i20 i27 i37 i38 i39 i40 i41 i42 i43 i44 i45 P v (by omega)) vX12_274 [0, 1] [2, 3, 4, 5, 6, 7] rfl rfl rfl rfl rfl rfl hl.1 rfl (Nat.le_of_ble_eq_true rfl) ⟨Nat.le_of_ble_eq_true rfl, Nat.le_of_ble_eq_true rfl⟩ ⟨Nat.le_of_ble_eq_true rfl, Nat.le_of_ble_eq_true rfl⟩ dX12_gossips_40 (fun r71 u9 H locs hq hW => ?_)
          obtain ⟨rfl, rfl⟩ := hq
          have hW : WD g A s _ _ [(b7, .inl (g.2.1 1, 11, .inl Lc)), (b12, .inl (g.2.1 1, 132, .inl La)), (b13, .inl (g.2.1 1, 132, .inl Lb)), (b48, .inl (g.2.1 3, 12, .inl lw)), (b46, .inl (g.2.1 1, 112, .inl G)), (b47, .inl (g.2.1 1, 16, .inl gr0)), (h0, .inr (12, [.int i0, .ref b1, .int i2, .int i3, .int i4, .int i5, .ref b6, .ref b7, .ref b8, .ref b9, .ref b10, .ref b11, .ref b12, .ref b13, .ref b14, .ref b15, .ref b16, .ref b17, .int i18, .int i19, .int i20, .ref b21, .ref b22, .ref b23, .ref b24, .ref b25, .ref b26, .int i27, .ref b28, .ref b29, .ref b30, .ref b31, .ref b32, .ref b33, .ref b34, .ref b35, .ref b36, .int i37, .int i38, .int i39, .int i40, .int i41, .int i42, .int i43, .int i44, .int i45, .ref b46, .ref b47, .ref b48, .ref b49, .ref b50, .ref b51, .ref b52, .ref b53, .ref b54, .ref b55, .ref b56, .ref b57, .ref b58, .ref b59, .ref b60, .ref b61, .ref b62, .ref b63])), (b6, .inl (g.2.1 1, 11, .inl P))] := hW
          refine lv_icmp_ne (tgt := 50) (pc := 43) hx hb dX12_gossips_43 rfl (fun c72 => ?_) (fun c72 => ?_)
          · refine lv_iconst (v := 0) (pc := 50) hx hb dX12_gossips_50 (by decide) ?_
            refine lv_istore (lv' := [(5, .int 0), (0, .ref h0), (1, .int (nI v)), (2, .int (nI dn)), (3, .int 8), (4, .int (nI (7 * dn))), (6, .int (nI k))]) (pc := 51) hx hb dX12_gossips_51 hl (by decide) rfl (fun ls hl => ?_)
            refine lv_iinc (v := nI (k + 1)) (lv' := [(6, .int (nI (k + 1))), (5, .int 0), (0, .ref h0), (1, .int (nI v)), (2, .int (nI dn)), (3, .int 8), (4, .int (nI (7 * dn)))]) (pc := 53) hx hb dX12_gossips_53 hl (k := 6) rfl ((nI_succ k).symm) (by decide) rfl (fun ls hl => ?_)
            refine lv_goto (tgt := 12) (pc := 56) hx hb dX12_gossips_56 rfl ?_
            have hW : WD g A s _ _ [(h0, .inr (12, [.int i0, .ref b1, .int i2, .int i3, .int i4, .int i5, .ref b6, .ref b7, .ref b8, .ref b9, .ref b10, .ref b11, .ref b12, .ref b13, .ref b14, .ref b15, .ref b16, .ref b17, .int i18, .int i19, .int i20, .ref b21, .ref b22, .ref b23, .ref b24, .ref b25, .ref b26, .int i27, .ref b28, .ref b29, .ref b30, .ref b31, .ref b32, .ref b33, .ref b34, .ref b35, .ref b36, .int i37, .int i38, .int i39, .int i40, .int i41, .int i42, .int i43, .int i44, .int i45, .ref b46, .ref b47, .ref b48, .ref b49, .ref b50, .ref b51, .ref b52, .ref b53, .ref b54, .ref b55, .ref b56, .ref b57, .ref b58, .ref b59, .ref b60, .ref b61, .ref b62, .ref b63])), (b6, .inl (g.2.1 1, 11, .inl P)), (b7, .inl (g.2.1 1, 11, .inl Lc)), (b12, .inl (g.2.1 1, 132, .inl La)), (b13, .inl (g.2.1 1, 132, .inl Lb)), (b48, .inl (g.2.1 3, 12, .inl lw)), (b46, .inl (g.2.1 1, 112, .inl G)), (b47, .inl (g.2.1 1, 16, .inl gr0))] := hW.pick [6, 7, 0, 1, 2, 3, 4, 5] rfl rfl
            exact ih1 (k + 1) 0 (by omega) (by omega) (Or.inr ⟨rfl, (fun q => c72 (by have := q k hkl; rw [hP]; exact this))⟩) _ _ _ hW (lv_sub hl [2, 3, 4, 5, 6, 1, 0] rfl)
          · refine lv_iconst (v := 1) (pc := 46) hx hb dX12_gossips_46 (by decide) ?_
            refine lv_goto (tgt := 51) (pc := 47) hx hb dX12_gossips_47 rfl ?_
            refine lv_istore (lv' := [(5, .int 1), (0, .ref h0), (1, .int (nI v)), (2, .int (nI dn)), (3, .int 8), (4, .int (nI (7 * dn))), (6, .int (nI k))]) (pc := 51) hx hb dX12_gossips_51 hl (by decide) rfl (fun ls hl => ?_)
            refine lv_iinc (v := nI (k + 1)) (lv' := [(6, .int (nI (k + 1))), (5, .int 1), (0, .ref h0), (1, .int (nI v)), (2, .int (nI dn)), (3, .int 8), (4, .int (nI (7 * dn)))]) (pc := 53) hx hb dX12_gossips_53 hl (k := 6) rfl ((nI_succ k).symm) (by decide) rfl (fun ls hl => ?_)
            refine lv_goto (tgt := 12) (pc := 56) hx hb dX12_gossips_56 rfl ?_
            have hW : WD g A s _ _ [(h0, .inr (12, [.int i0, .ref b1, .int i2, .int i3, .int i4, .int i5, .ref b6, .ref b7, .ref b8, .ref b9, .ref b10, .ref b11, .ref b12, .ref b13, .ref b14, .ref b15, .ref b16, .ref b17, .int i18, .int i19, .int i20, .ref b21, .ref b22, .ref b23, .ref b24, .ref b25, .ref b26, .int i27, .ref b28, .ref b29, .ref b30, .ref b31, .ref b32, .ref b33, .ref b34, .ref b35, .ref b36, .int i37, .int i38, .int i39, .int i40, .int i41, .int i42, .int i43, .int i44, .int i45, .ref b46, .ref b47, .ref b48, .ref b49, .ref b50, .ref b51, .ref b52, .ref b53, .ref b54, .ref b55, .ref b56, .ref b57, .ref b58, .ref b59, .ref b60, .ref b61, .ref b62, .ref b63])), (b6, .inl (g.2.1 1, 11, .inl P)), (b7, .inl (g.2.1 1, 11, .inl Lc)), (b12, .inl (g.2.1 1, 132, .inl La)), (b13, .inl (g.2.1 1, 132, .inl Lb)), (b48, .inl (g.2.1 3, 12, .inl lw)), (b46, .inl (g.2.1 1, 112, .inl G)), (b47, .inl (g.2.1 1, 16, .inl gr0))] := hW.pick [6, 7, 0, 1, 2, 3, 4, 5] rfl rfl
            exact ih1 (k + 1) 1 (by omega) (by omega) (Or.inl ⟨rfl, gall_s (p := pp) (hal1 hal9) (by show G (7 * dn + k) = _; rw [c72, hP])⟩) _ _ _ hW (lv_sub hl [2, 3, 4, 5, 6, 1, 0] rfl)
  exact loop1 (pp + 1) 0 1 (by omega) (Nat.zero_le _) (Or.inl ⟨rfl, fun o ho => absurd ho (Nat.not_lt_zero o)⟩) _ _ _ hW (lv_sub hl [3, 4, 5, 6, 2, 1, 0] rfl)

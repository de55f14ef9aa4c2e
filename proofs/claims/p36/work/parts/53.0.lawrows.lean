def R_law : String := "NoonValleyLaw"
def lw_P (b : Addr) (xs : List Int32) (args : Array Value) (s : State) : Prop := args = #[.ref b] ∧ s.IntsAt b xs ∧ xs.length ≤ 3072 ∧ (Jvm.Cond.and given_1 narrow_1).before args s = true
def lw_Q (_ : Array Value) (s : State) (o : Outcome) (t : State) : Prop := o = .returned (some (.int 1)) ∧ Framed s o t [] 601024 7293034
def lw_Z (below : List Frame) (a : Array Value) (s : State) : State → Prop := fun t => ∃ o, t.status = .running ∧ Ended t below o ∧ lw_Q a s o t
/-- the law's own end, with 1 on the stack, nothing written that was there before, its room as the claim has it -/
theorem lw_ret {p : Program} {l : Launch} {e : Env} {s : State} {m : MethodId} {below : List Frame} {meth : Method} {c : Code} {b : Nat} (hx : p.tables.exec = Jvm.exec) (hb : c.code = code) (hr : meth.sig.returnType = ret) (hlocks : meth.locks = false) {pc : Nat} {H : Heap} {ls : Array Slot} (hdg : decode code pc = .ok (.ireturn, 1)) : W p l e room_1 s m #[Value.ref b] below meth c H [] 601024 7293034 (lw_Z below #[Value.ref b] s) (F0 m pc ls [.int 1]) := by
  intro T hT X
  obtain ⟨fs, hret, hrun, hended, hW, hframe⟩ := X.leave (v := some (.int 1)) (hlocks := hlocks) (fun h => by rw [hr] at h; cases h)
  have hmeth' : T.vm.method? m = some meth := X.method'
  refine ⟨T.setFrames fs, ?_, .returned (some (.int 1)), hrun, hended, rfl, ⟨_, rfl⟩, hW, hframe⟩
  jvm_step X.here [X.here.top, hx, hb, hdg, hmeth', hr, ret, narrow_b1]
  (try refine ⟨rfl, ?_⟩); (try refine ⟨rfl, ?_⟩)
  first | (intro acts; rw [hret _ acts rfl rfl rfl]) | rw [hret _ _ rfl rfl rfl]
  exact Steps.refl _
/-- what holds at the law's entry: the machine, the code, the tables' words (any of lw_tbl by 'hts w (by decide +kernel)'), the script of L ints xs at the cell b, what the Statement gives of the start (any of its parts by flat_of_before) -/
def lw_At (p : Program) (s : State) (m : MethodId) (meth : Method) (c : Code) (b L : Nat) (xs : Nat → Int32) : Prop :=
  p.tables.exec = Jvm.exec ∧ c.code = code ∧ meth.sig.returnType = ret ∧ c.maxLocals = 7 ∧ s.vm.findClass R_law = some m.cls ∧ (∀ w ∈ lw_tbl, w.before #[Value.ref b] s = true) ∧ va_X b L xs s s.heap ∧ b < s.heap.size ∧ meth.locks = false ∧ (Jvm.Cond.and given_1 narrow_1).before #[Value.ref b] s = true
theorem row_of {c : ByteArray} {ps : List Nat} {rs : List (Except DecodeError (Instr × Nat))} (h : List.map (decode c) ps = rs) (k : Nat) {p : Nat} {r : Except DecodeError (Instr × Nat)} (hp : ps[k]? = some p) (hr : rs[k]? = some r) : decode c p = r := by
  rw [← h, List.getElem?_map, hp] at hr
  exact Option.some.inj hr
theorem dLc_0 : List.map (decode cL_law) [0, 3, 4, 7, 8, 11, 12, 15, 16, 17, 19, 20, 21, 23, 25, 26, 27, 29, 30, 33, 34, 36, 37, 39, 40, 204, 205, 206, 208, 209, 210, 211, 212, 214, 215, 216, 217, 218, 220, 221, 222, 223, 224, 226, 227, 228, 229, 230, 232, 233, 234, 235, 238, 239, 240, 241, 243, 244, 245, 246, 247, 249, 250, 251] = [.ok (.new 8, 3), .ok (.dup, 1), .ok (.invokespecial 15, 3), .ok (.astore_n 1, 1), .ok (.new 16, 3), .ok (.dup, 1), .ok (.invokespecial 18, 3), .ok (.astore_n 2, 1), .ok (.iconst 1, 1), .ok (.newarray .long, 2), .ok (.astore_n 3, 1), .ok (.iconst 0, 1), .ok (.istore 4, 2), .ok (.iload 4, 2), .ok (.aload_n 0, 1), .ok (.arraylength, 1), .ok (.bipush 6, 2), .ok (.isub, 1), .ok (.if_icmp .gt 1812, 3), .ok (.aload_n 0, 1), .ok (.iload 4, 2), .ok (.iaload, 1), .ok (.bipush 63, 2), .ok (.iand, 1), .ok (.tableswitch 1796 0 36 #[164, 237, 262, 275, 288, 325, 377, 426, 487, 512, 585, 622, 647, 696, 745, 782, 831, 904, 965, 1014, 1063, 1124, 1149, 1186, 1223, 1272, 1321, 1346, 1383, 1444, 1481, 1506, 1555, 1636, 1697, 1734, 1771], 164), .ok (.aload_n 1, 1), .ok (.aload_n 0, 1), .ok (.iload 4, 2), .ok (.iconst 1, 1), .ok (.iadd, 1), .ok (.iaload, 1), .ok (.aload_n 0, 1), .ok (.iload 4, 2), .ok (.iconst 2, 1), .ok (.iadd, 1), .ok (.iaload, 1), .ok (.aload_n 0, 1), .ok (.iload 4, 2), .ok (.iconst 3, 1), .ok (.iadd, 1), .ok (.iaload, 1), .ok (.aload_n 0, 1), .ok (.iload 4, 2), .ok (.iconst 4, 1), .ok (.iadd, 1), .ok (.iaload, 1), .ok (.aload_n 0, 1), .ok (.iload 4, 2), .ok (.iconst 5, 1), .ok (.iadd, 1), .ok (.iaload, 1), .ok (.invokevirtual 19, 3), .ok (.pop, 1), .ok (.aload_n 2, 1), .ok (.aload_n 0, 1), .ok (.iload 4, 2), .ok (.iconst 1, 1), .ok (.iadd, 1), .ok (.iaload, 1), .ok (.aload_n 0, 1), .ok (.iload 4, 2), .ok (.iconst 2, 1), .ok (.iadd, 1), .ok (.iaload, 1)] := wk_map (t := [(0, .new 8, 3), (3, .dup, 1), (4, .invokespecial 15, 3), (7, .astore_n 1, 1), (8, .new 16, 3), (11, .dup, 1), (12, .invokespecial 18, 3), (15, .astore_n 2, 1), (16, .iconst 1, 1), (17, .newarray .long, 2), (19, .astore_n 3, 1), (20, .iconst 0, 1), (21, .istore 4, 2), (23, .iload 4, 2), (25, .aload_n 0, 1), (26, .arraylength, 1), (27, .bipush 6, 2), (29, .isub, 1), (30, .if_icmp .gt 1812, 3), (33, .aload_n 0, 1), (34, .iload 4, 2), (36, .iaload, 1), (37, .bipush 63, 2), (39, .iand, 1), (40, .tableswitch 1796 0 36 #[164, 237, 262, 275, 288, 325, 377, 426, 487, 512, 585, 622, 647, 696, 745, 782, 831, 904, 965, 1014, 1063, 1124, 1149, 1186, 1223, 1272, 1321, 1346, 1383, 1444, 1481, 1506, 1555, 1636, 1697, 1734, 1771], 164), (204, .aload_n 1, 1), (205, .aload_n 0, 1), (206, .iload 4, 2), (208, .iconst 1, 1), (209, .iadd, 1), (210, .iaload, 1), (211, .aload_n 0, 1), (212, .iload 4, 2), (214, .iconst 2, 1), (215, .iadd, 1), (216, .iaload, 1), (217, .aload_n 0, 1), (218, .iload 4, 2), (220, .iconst 3, 1), (221, .iadd, 1), (222, .iaload, 1), (223, .aload_n 0, 1), (224, .iload 4, 2), (226, .iconst 4, 1), (227, .iadd, 1), (228, .iaload, 1), (229, .aload_n 0, 1), (230, .iload 4, 2), (232, .iconst 5, 1), (233, .iadd, 1), (234, .iaload, 1), (235, .invokevirtual 19, 3), (238, .pop, 1), (239, .aload_n 2, 1), (240, .aload_n 0, 1), (241, .iload 4, 2), (243, .iconst 1, 1), (244, .iadd, 1), (245, .iaload, 1), (246, .aload_n 0, 1), (247, .iload 4, 2), (249, .iconst 2, 1), (250, .iadd, 1), (251, .iaload, 1)]) (by decide +kernel)
theorem dL_law_0 : decode cL_law 0 = .ok (.new 8, 3) := row_of dLc_0 0 rfl rfl
theorem dL_law_3 : decode cL_law 3 = .ok (.dup, 1) := row_of dLc_0 1 rfl rfl
theorem dL_law_4 : decode cL_law 4 = .ok (.invokespecial 15, 3) := row_of dLc_0 2 rfl rfl
theorem dL_law_7 : decode cL_law 7 = .ok (.astore_n 1, 1) := row_of dLc_0 3 rfl rfl
theorem dL_law_8 : decode cL_law 8 = .ok (.new 16, 3) := row_of dLc_0 4 rfl rfl
theorem dL_law_11 : decode cL_law 11 = .ok (.dup, 1) := row_of dLc_0 5 rfl rfl
theorem dL_law_12 : decode cL_law 12 = .ok (.invokespecial 18, 3) := row_of dLc_0 6 rfl rfl
theorem dL_law_15 : decode cL_law 15 = .ok (.astore_n 2, 1) := row_of dLc_0 7 rfl rfl
theorem dL_law_16 : decode cL_law 16 = .ok (.iconst 1, 1) := row_of dLc_0 8 rfl rfl
theorem dL_law_17 : decode cL_law 17 = .ok (.newarray .long, 2) := row_of dLc_0 9 rfl rfl
theorem dL_law_19 : decode cL_law 19 = .ok (.astore_n 3, 1) := row_of dLc_0 10 rfl rfl
theorem dL_law_20 : decode cL_law 20 = .ok (.iconst 0, 1) := row_of dLc_0 11 rfl rfl
theorem dL_law_21 : decode cL_law 21 = .ok (.istore 4, 2) := row_of dLc_0 12 rfl rfl
theorem dL_law_23 : decode cL_law 23 = .ok (.iload 4, 2) := row_of dLc_0 13 rfl rfl
theorem dL_law_25 : decode cL_law 25 = .ok (.aload_n 0, 1) := row_of dLc_0 14 rfl rfl
theorem dL_law_26 : decode cL_law 26 = .ok (.arraylength, 1) := row_of dLc_0 15 rfl rfl
theorem dL_law_27 : decode cL_law 27 = .ok (.bipush 6, 2) := row_of dLc_0 16 rfl rfl
theorem dL_law_29 : decode cL_law 29 = .ok (.isub, 1) := row_of dLc_0 17 rfl rfl
theorem dL_law_30 : decode cL_law 30 = .ok (.if_icmp .gt 1812, 3) := row_of dLc_0 18 rfl rfl
theorem dL_law_33 : decode cL_law 33 = .ok (.aload_n 0, 1) := row_of dLc_0 19 rfl rfl
theorem dL_law_34 : decode cL_law 34 = .ok (.iload 4, 2) := row_of dLc_0 20 rfl rfl
theorem dL_law_36 : decode cL_law 36 = .ok (.iaload, 1) := row_of dLc_0 21 rfl rfl
theorem dL_law_37 : decode cL_law 37 = .ok (.bipush 63, 2) := row_of dLc_0 22 rfl rfl
theorem dL_law_39 : decode cL_law 39 = .ok (.iand, 1) := row_of dLc_0 23 rfl rfl
theorem dL_law_40 : decode cL_law 40 = .ok (.tableswitch 1796 0 36 #[164, 237, 262, 275, 288, 325, 377, 426, 487, 512, 585, 622, 647, 696, 745, 782, 831, 904, 965, 1014, 1063, 1124, 1149, 1186, 1223, 1272, 1321, 1346, 1383, 1444, 1481, 1506, 1555, 1636, 1697, 1734, 1771], 164) := row_of dLc_0 24 rfl rfl
theorem dL_law_204 : decode cL_law 204 = .ok (.aload_n 1, 1) := row_of dLc_0 25 rfl rfl
theorem dL_law_205 : decode cL_law 205 = .ok (.aload_n 0, 1) := row_of dLc_0 26 rfl rfl
theorem dL_law_206 : decode cL_law 206 = .ok (.iload 4, 2) := row_of dLc_0 27 rfl rfl
theorem dL_law_208 : decode cL_law 208 = .ok (.iconst 1, 1) := row_of dLc_0 28 rfl rfl
theorem dL_law_209 : decode cL_law 209 = .ok (.iadd, 1) := row_of dLc_0 29 rfl rfl
theorem dL_law_210 : decode cL_law 210 = .ok (.iaload, 1) := row_of dLc_0 30 rfl rfl
theorem dL_law_211 : decode cL_law 211 = .ok (.aload_n 0, 1) := row_of dLc_0 31 rfl rfl
theorem dL_law_212 : decode cL_law 212 = .ok (.iload 4, 2) := row_of dLc_0 32 rfl rfl
theorem dL_law_214 : decode cL_law 214 = .ok (.iconst 2, 1) := row_of dLc_0 33 rfl rfl
theorem dL_law_215 : decode cL_law 215 = .ok (.iadd, 1) := row_of dLc_0 34 rfl rfl
theorem dL_law_216 : decode cL_law 216 = .ok (.iaload, 1) := row_of dLc_0 35 rfl rfl
theorem dL_law_217 : decode cL_law 217 = .ok (.aload_n 0, 1) := row_of dLc_0 36 rfl rfl
theorem dL_law_218 : decode cL_law 218 = .ok (.iload 4, 2) := row_of dLc_0 37 rfl rfl
theorem dL_law_220 : decode cL_law 220 = .ok (.iconst 3, 1) := row_of dLc_0 38 rfl rfl
theorem dL_law_221 : decode cL_law 221 = .ok (.iadd, 1) := row_of dLc_0 39 rfl rfl
theorem dL_law_222 : decode cL_law 222 = .ok (.iaload, 1) := row_of dLc_0 40 rfl rfl
theorem dL_law_223 : decode cL_law 223 = .ok (.aload_n 0, 1) := row_of dLc_0 41 rfl rfl
theorem dL_law_224 : decode cL_law 224 = .ok (.iload 4, 2) := row_of dLc_0 42 rfl rfl
theorem dL_law_226 : decode cL_law 226 = .ok (.iconst 4, 1) := row_of dLc_0 43 rfl rfl
theorem dL_law_227 : decode cL_law 227 = .ok (.iadd, 1) := row_of dLc_0 44 rfl rfl
theorem dL_law_228 : decode cL_law 228 = .ok (.iaload, 1) := row_of dLc_0 45 rfl rfl
theorem dL_law_229 : decode cL_law 229 = .ok (.aload_n 0, 1) := row_of dLc_0 46 rfl rfl
theorem dL_law_230 : decode cL_law 230 = .ok (.iload 4, 2) := row_of dLc_0 47 rfl rfl
theorem dL_law_232 : decode cL_law 232 = .ok (.iconst 5, 1) := row_of dLc_0 48 rfl rfl
theorem dL_law_233 : decode cL_law 233 = .ok (.iadd, 1) := row_of dLc_0 49 rfl rfl
theorem dL_law_234 : decode cL_law 234 = .ok (.iaload, 1) := row_of dLc_0 50 rfl rfl
theorem dL_law_235 : decode cL_law 235 = .ok (.invokevirtual 19, 3) := row_of dLc_0 51 rfl rfl
theorem dL_law_238 : decode cL_law 238 = .ok (.pop, 1) := row_of dLc_0 52 rfl rfl
theorem dL_law_239 : decode cL_law 239 = .ok (.aload_n 2, 1) := row_of dLc_0 53 rfl rfl
theorem dL_law_240 : decode cL_law 240 = .ok (.aload_n 0, 1) := row_of dLc_0 54 rfl rfl
theorem dL_law_241 : decode cL_law 241 = .ok (.iload 4, 2) := row_of dLc_0 55 rfl rfl
theorem dL_law_243 : decode cL_law 243 = .ok (.iconst 1, 1) := row_of dLc_0 56 rfl rfl
theorem dL_law_244 : decode cL_law 244 = .ok (.iadd, 1) := row_of dLc_0 57 rfl rfl
theorem dL_law_245 : decode cL_law 245 = .ok (.iaload, 1) := row_of dLc_0 58 rfl rfl
theorem dL_law_246 : decode cL_law 246 = .ok (.aload_n 0, 1) := row_of dLc_0 59 rfl rfl
theorem dL_law_247 : decode cL_law 247 = .ok (.iload 4, 2) := row_of dLc_0 60 rfl rfl
theorem dL_law_249 : decode cL_law 249 = .ok (.iconst 2, 1) := row_of dLc_0 61 rfl rfl
theorem dL_law_250 : decode cL_law 250 = .ok (.iadd, 1) := row_of dLc_0 62 rfl rfl
theorem dL_law_251 : decode cL_law 251 = .ok (.iaload, 1) := row_of dLc_0 63 rfl rfl
theorem dLc_252 : List.map (decode cL_law) [252, 253, 255, 256, 257, 258, 259, 261, 262, 263, 264, 265, 267, 268, 269, 270, 273, 274, 277, 278, 279, 281, 282, 283, 284, 287, 288, 289, 290, 292, 293, 294, 295, 298, 299, 302, 303, 306, 307, 308, 311, 312, 315, 316, 319, 320, 321, 324, 325, 328, 329, 330, 332, 333, 334, 335, 336, 338, 339, 340, 341, 344, 345, 346] = [.ok (.aload_n 0, 1), .ok (.iload 4, 2), .ok (.iconst 3, 1), .ok (.iadd, 1), .ok (.iaload, 1), .ok (.aload_n 0, 1), .ok (.iload 4, 2), .ok (.iconst 4, 1), .ok (.iadd, 1), .ok (.iaload, 1), .ok (.aload_n 0, 1), .ok (.iload 4, 2), .ok (.iconst 5, 1), .ok (.iadd, 1), .ok (.iaload, 1), .ok (.invokevirtual 23, 3), .ok (.pop, 1), .ok (.goto 1562, 3), .ok (.aload_n 1, 1), .ok (.aload_n 0, 1), .ok (.iload 4, 2), .ok (.iconst 1, 1), .ok (.iadd, 1), .ok (.iaload, 1), .ok (.invokevirtual 24, 3), .ok (.pop, 1), .ok (.aload_n 2, 1), .ok (.aload_n 0, 1), .ok (.iload 4, 2), .ok (.iconst 1, 1), .ok (.iadd, 1), .ok (.iaload, 1), .ok (.invokevirtual 28, 3), .ok (.pop, 1), .ok (.goto 1537, 3), .ok (.aload_n 1, 1), .ok (.invokevirtual 29, 3), .ok (.pop, 1), .ok (.aload_n 2, 1), .ok (.invokevirtual 33, 3), .ok (.pop, 1), .ok (.goto 1524, 3), .ok (.aload_n 1, 1), .ok (.invokevirtual 34, 3), .ok (.pop, 1), .ok (.aload_n 2, 1), .ok (.invokevirtual 37, 3), .ok (.pop, 1), .ok (.goto 1511, 3), .ok (.aload_n 1, 1), .ok (.aload_n 0, 1), .ok (.iload 4, 2), .ok (.iconst 1, 1), .ok (.iadd, 1), .ok (.iaload, 1), .ok (.aload_n 0, 1), .ok (.iload 4, 2), .ok (.iconst 2, 1), .ok (.iadd, 1), .ok (.iaload, 1), .ok (.invokevirtual 38, 3), .ok (.pop, 1), .ok (.aload_n 2, 1), .ok (.aload_n 0, 1)] := wk_map (t := [(252, .aload_n 0, 1), (253, .iload 4, 2), (255, .iconst 3, 1), (256, .iadd, 1), (257, .iaload, 1), (258, .aload_n 0, 1), (259, .iload 4, 2), (261, .iconst 4, 1), (262, .iadd, 1), (263, .iaload, 1), (264, .aload_n 0, 1), (265, .iload 4, 2), (267, .iconst 5, 1), (268, .iadd, 1), (269, .iaload, 1), (270, .invokevirtual 23, 3), (273, .pop, 1), (274, .goto 1562, 3), (277, .aload_n 1, 1), (278, .aload_n 0, 1), (279, .iload 4, 2), (281, .iconst 1, 1), (282, .iadd, 1), (283, .iaload, 1), (284, .invokevirtual 24, 3), (287, .pop, 1), (288, .aload_n 2, 1), (289, .aload_n 0, 1), (290, .iload 4, 2), (292, .iconst 1, 1), (293, .iadd, 1), (294, .iaload, 1), (295, .invokevirtual 28, 3), (298, .pop, 1), (299, .goto 1537, 3), (302, .aload_n 1, 1), (303, .invokevirtual 29, 3), (306, .pop, 1), (307, .aload_n 2, 1), (308, .invokevirtual 33, 3), (311, .pop, 1), (312, .goto 1524, 3), (315, .aload_n 1, 1), (316, .invokevirtual 34, 3), (319, .pop, 1), (320, .aload_n 2, 1), (321, .invokevirtual 37, 3), (324, .pop, 1), (325, .goto 1511, 3), (328, .aload_n 1, 1), (329, .aload_n 0, 1), (330, .iload 4, 2), (332, .iconst 1, 1), (333, .iadd, 1), (334, .iaload, 1), (335, .aload_n 0, 1), (336, .iload 4, 2), (338, .iconst 2, 1), (339, .iadd, 1), (340, .iaload, 1), (341, .invokevirtual 38, 3), (344, .pop, 1), (345, .aload_n 2, 1), (346, .aload_n 0, 1)]) (by decide +kernel)
theorem dL_law_252 : decode cL_law 252 = .ok (.aload_n 0, 1) := row_of dLc_252 0 rfl rfl
theorem dL_law_253 : decode cL_law 253 = .ok (.iload 4, 2) := row_of dLc_252 1 rfl rfl
theorem dL_law_255 : decode cL_law 255 = .ok (.iconst 3, 1) := row_of dLc_252 2 rfl rfl
theorem dL_law_256 : decode cL_law 256 = .ok (.iadd, 1) := row_of dLc_252 3 rfl rfl
theorem dL_law_257 : decode cL_law 257 = .ok (.iaload, 1) := row_of dLc_252 4 rfl rfl
theorem dL_law_258 : decode cL_law 258 = .ok (.aload_n 0, 1) := row_of dLc_252 5 rfl rfl
theorem dL_law_259 : decode cL_law 259 = .ok (.iload 4, 2) := row_of dLc_252 6 rfl rfl
theorem dL_law_261 : decode cL_law 261 = .ok (.iconst 4, 1) := row_of dLc_252 7 rfl rfl
theorem dL_law_262 : decode cL_law 262 = .ok (.iadd, 1) := row_of dLc_252 8 rfl rfl
theorem dL_law_263 : decode cL_law 263 = .ok (.iaload, 1) := row_of dLc_252 9 rfl rfl
theorem dL_law_264 : decode cL_law 264 = .ok (.aload_n 0, 1) := row_of dLc_252 10 rfl rfl
theorem dL_law_265 : decode cL_law 265 = .ok (.iload 4, 2) := row_of dLc_252 11 rfl rfl
theorem dL_law_267 : decode cL_law 267 = .ok (.iconst 5, 1) := row_of dLc_252 12 rfl rfl
theorem dL_law_268 : decode cL_law 268 = .ok (.iadd, 1) := row_of dLc_252 13 rfl rfl
theorem dL_law_269 : decode cL_law 269 = .ok (.iaload, 1) := row_of dLc_252 14 rfl rfl
theorem dL_law_270 : decode cL_law 270 = .ok (.invokevirtual 23, 3) := row_of dLc_252 15 rfl rfl
theorem dL_law_273 : decode cL_law 273 = .ok (.pop, 1) := row_of dLc_252 16 rfl rfl
theorem dL_law_274 : decode cL_law 274 = .ok (.goto 1562, 3) := row_of dLc_252 17 rfl rfl
theorem dL_law_277 : decode cL_law 277 = .ok (.aload_n 1, 1) := row_of dLc_252 18 rfl rfl
theorem dL_law_278 : decode cL_law 278 = .ok (.aload_n 0, 1) := row_of dLc_252 19 rfl rfl
theorem dL_law_279 : decode cL_law 279 = .ok (.iload 4, 2) := row_of dLc_252 20 rfl rfl
theorem dL_law_281 : decode cL_law 281 = .ok (.iconst 1, 1) := row_of dLc_252 21 rfl rfl
theorem dL_law_282 : decode cL_law 282 = .ok (.iadd, 1) := row_of dLc_252 22 rfl rfl
theorem dL_law_283 : decode cL_law 283 = .ok (.iaload, 1) := row_of dLc_252 23 rfl rfl
theorem dL_law_284 : decode cL_law 284 = .ok (.invokevirtual 24, 3) := row_of dLc_252 24 rfl rfl
theorem dL_law_287 : decode cL_law 287 = .ok (.pop, 1) := row_of dLc_252 25 rfl rfl
theorem dL_law_288 : decode cL_law 288 = .ok (.aload_n 2, 1) := row_of dLc_252 26 rfl rfl
theorem dL_law_289 : decode cL_law 289 = .ok (.aload_n 0, 1) := row_of dLc_252 27 rfl rfl
theorem dL_law_290 : decode cL_law 290 = .ok (.iload 4, 2) := row_of dLc_252 28 rfl rfl
theorem dL_law_292 : decode cL_law 292 = .ok (.iconst 1, 1) := row_of dLc_252 29 rfl rfl
theorem dL_law_293 : decode cL_law 293 = .ok (.iadd, 1) := row_of dLc_252 30 rfl rfl
theorem dL_law_294 : decode cL_law 294 = .ok (.iaload, 1) := row_of dLc_252 31 rfl rfl
theorem dL_law_295 : decode cL_law 295 = .ok (.invokevirtual 28, 3) := row_of dLc_252 32 rfl rfl
theorem dL_law_298 : decode cL_law 298 = .ok (.pop, 1) := row_of dLc_252 33 rfl rfl
theorem dL_law_299 : decode cL_law 299 = .ok (.goto 1537, 3) := row_of dLc_252 34 rfl rfl
theorem dL_law_302 : decode cL_law 302 = .ok (.aload_n 1, 1) := row_of dLc_252 35 rfl rfl
theorem dL_law_303 : decode cL_law 303 = .ok (.invokevirtual 29, 3) := row_of dLc_252 36 rfl rfl
theorem dL_law_306 : decode cL_law 306 = .ok (.pop, 1) := row_of dLc_252 37 rfl rfl
theorem dL_law_307 : decode cL_law 307 = .ok (.aload_n 2, 1) := row_of dLc_252 38 rfl rfl
theorem dL_law_308 : decode cL_law 308 = .ok (.invokevirtual 33, 3) := row_of dLc_252 39 rfl rfl
theorem dL_law_311 : decode cL_law 311 = .ok (.pop, 1) := row_of dLc_252 40 rfl rfl
theorem dL_law_312 : decode cL_law 312 = .ok (.goto 1524, 3) := row_of dLc_252 41 rfl rfl
theorem dL_law_315 : decode cL_law 315 = .ok (.aload_n 1, 1) := row_of dLc_252 42 rfl rfl
theorem dL_law_316 : decode cL_law 316 = .ok (.invokevirtual 34, 3) := row_of dLc_252 43 rfl rfl
theorem dL_law_319 : decode cL_law 319 = .ok (.pop, 1) := row_of dLc_252 44 rfl rfl
theorem dL_law_320 : decode cL_law 320 = .ok (.aload_n 2, 1) := row_of dLc_252 45 rfl rfl
theorem dL_law_321 : decode cL_law 321 = .ok (.invokevirtual 37, 3) := row_of dLc_252 46 rfl rfl
theorem dL_law_324 : decode cL_law 324 = .ok (.pop, 1) := row_of dLc_252 47 rfl rfl
theorem dL_law_325 : decode cL_law 325 = .ok (.goto 1511, 3) := row_of dLc_252 48 rfl rfl
theorem dL_law_328 : decode cL_law 328 = .ok (.aload_n 1, 1) := row_of dLc_252 49 rfl rfl
theorem dL_law_329 : decode cL_law 329 = .ok (.aload_n 0, 1) := row_of dLc_252 50 rfl rfl
theorem dL_law_330 : decode cL_law 330 = .ok (.iload 4, 2) := row_of dLc_252 51 rfl rfl
theorem dL_law_332 : decode cL_law 332 = .ok (.iconst 1, 1) := row_of dLc_252 52 rfl rfl
theorem dL_law_333 : decode cL_law 333 = .ok (.iadd, 1) := row_of dLc_252 53 rfl rfl
theorem dL_law_334 : decode cL_law 334 = .ok (.iaload, 1) := row_of dLc_252 54 rfl rfl
theorem dL_law_335 : decode cL_law 335 = .ok (.aload_n 0, 1) := row_of dLc_252 55 rfl rfl
theorem dL_law_336 : decode cL_law 336 = .ok (.iload 4, 2) := row_of dLc_252 56 rfl rfl
theorem dL_law_338 : decode cL_law 338 = .ok (.iconst 2, 1) := row_of dLc_252 57 rfl rfl
theorem dL_law_339 : decode cL_law 339 = .ok (.iadd, 1) := row_of dLc_252 58 rfl rfl
theorem dL_law_340 : decode cL_law 340 = .ok (.iaload, 1) := row_of dLc_252 59 rfl rfl
theorem dL_law_341 : decode cL_law 341 = .ok (.invokevirtual 38, 3) := row_of dLc_252 60 rfl rfl
theorem dL_law_344 : decode cL_law 344 = .ok (.pop, 1) := row_of dLc_252 61 rfl rfl
theorem dL_law_345 : decode cL_law 345 = .ok (.aload_n 2, 1) := row_of dLc_252 62 rfl rfl
theorem dL_law_346 : decode cL_law 346 = .ok (.aload_n 0, 1) := row_of dLc_252 63 rfl rfl
theorem dLc_347 : List.map (decode cL_law) [347, 349, 350, 351, 352, 353, 355, 356, 357, 358, 361, 362, 365, 366, 367, 369, 370, 371, 372, 373, 375, 376, 377, 378, 379, 381, 382, 383, 384, 385, 388, 390, 391, 392, 394, 395, 396, 397, 398, 400, 401, 402, 403, 404, 406, 407, 408, 409, 412, 414, 417, 418, 419, 421, 422, 423, 424, 425, 427, 428, 429, 430, 431, 433] = [.ok (.iload 4, 2), .ok (.iconst 1, 1), .ok (.iadd, 1), .ok (.iaload, 1), .ok (.aload_n 0, 1), .ok (.iload 4, 2), .ok (.iconst 2, 1), .ok (.iadd, 1), .ok (.iaload, 1), .ok (.invokevirtual 42, 3), .ok (.pop, 1), .ok (.goto 1474, 3), .ok (.aload_n 1, 1), .ok (.aload_n 0, 1), .ok (.iload 4, 2), .ok (.iconst 1, 1), .ok (.iadd, 1), .ok (.iaload, 1), .ok (.aload_n 0, 1), .ok (.iload 4, 2), .ok (.iconst 2, 1), .ok (.iadd, 1), .ok (.iaload, 1), .ok (.aload_n 0, 1), .ok (.iload 4, 2), .ok (.iconst 3, 1), .ok (.iadd, 1), .ok (.iaload, 1), .ok (.aload_n 3, 1), .ok (.invokestatic 43, 3), .ok (.istore 5, 2), .ok (.aload_n 2, 1), .ok (.aload_n 0, 1), .ok (.iload 4, 2), .ok (.iconst 1, 1), .ok (.iadd, 1), .ok (.iaload, 1), .ok (.aload_n 0, 1), .ok (.iload 4, 2), .ok (.iconst 2, 1), .ok (.iadd, 1), .ok (.iaload, 1), .ok (.aload_n 0, 1), .ok (.iload 4, 2), .ok (.iconst 3, 1), .ok (.iadd, 1), .ok (.iaload, 1), .ok (.invokevirtual 48, 3), .ok (.istore 6, 2), .ok (.goto 1422, 3), .ok (.aload_n 1, 1), .ok (.aload_n 0, 1), .ok (.iload 4, 2), .ok (.iconst 1, 1), .ok (.iadd, 1), .ok (.iaload, 1), .ok (.aload_n 0, 1), .ok (.iload 4, 2), .ok (.iconst 2, 1), .ok (.iadd, 1), .ok (.iaload, 1), .ok (.aload_n 0, 1), .ok (.iload 4, 2), .ok (.iconst 3, 1)] := wk_map (t := [(347, .iload 4, 2), (349, .iconst 1, 1), (350, .iadd, 1), (351, .iaload, 1), (352, .aload_n 0, 1), (353, .iload 4, 2), (355, .iconst 2, 1), (356, .iadd, 1), (357, .iaload, 1), (358, .invokevirtual 42, 3), (361, .pop, 1), (362, .goto 1474, 3), (365, .aload_n 1, 1), (366, .aload_n 0, 1), (367, .iload 4, 2), (369, .iconst 1, 1), (370, .iadd, 1), (371, .iaload, 1), (372, .aload_n 0, 1), (373, .iload 4, 2), (375, .iconst 2, 1), (376, .iadd, 1), (377, .iaload, 1), (378, .aload_n 0, 1), (379, .iload 4, 2), (381, .iconst 3, 1), (382, .iadd, 1), (383, .iaload, 1), (384, .aload_n 3, 1), (385, .invokestatic 43, 3), (388, .istore 5, 2), (390, .aload_n 2, 1), (391, .aload_n 0, 1), (392, .iload 4, 2), (394, .iconst 1, 1), (395, .iadd, 1), (396, .iaload, 1), (397, .aload_n 0, 1), (398, .iload 4, 2), (400, .iconst 2, 1), (401, .iadd, 1), (402, .iaload, 1), (403, .aload_n 0, 1), (404, .iload 4, 2), (406, .iconst 3, 1), (407, .iadd, 1), (408, .iaload, 1), (409, .invokevirtual 48, 3), (412, .istore 6, 2), (414, .goto 1422, 3), (417, .aload_n 1, 1), (418, .aload_n 0, 1), (419, .iload 4, 2), (421, .iconst 1, 1), (422, .iadd, 1), (423, .iaload, 1), (424, .aload_n 0, 1), (425, .iload 4, 2), (427, .iconst 2, 1), (428, .iadd, 1), (429, .iaload, 1), (430, .aload_n 0, 1), (431, .iload 4, 2), (433, .iconst 3, 1)]) (by decide +kernel)
theorem dL_law_347 : decode cL_law 347 = .ok (.iload 4, 2) := row_of dLc_347 0 rfl rfl
theorem dL_law_349 : decode cL_law 349 = .ok (.iconst 1, 1) := row_of dLc_347 1 rfl rfl
theorem dL_law_350 : decode cL_law 350 = .ok (.iadd, 1) := row_of dLc_347 2 rfl rfl
theorem dL_law_351 : decode cL_law 351 = .ok (.iaload, 1) := row_of dLc_347 3 rfl rfl
theorem dL_law_352 : decode cL_law 352 = .ok (.aload_n 0, 1) := row_of dLc_347 4 rfl rfl
theorem dL_law_353 : decode cL_law 353 = .ok (.iload 4, 2) := row_of dLc_347 5 rfl rfl
theorem dL_law_355 : decode cL_law 355 = .ok (.iconst 2, 1) := row_of dLc_347 6 rfl rfl
theorem dL_law_356 : decode cL_law 356 = .ok (.iadd, 1) := row_of dLc_347 7 rfl rfl
theorem dL_law_357 : decode cL_law 357 = .ok (.iaload, 1) := row_of dLc_347 8 rfl rfl
theorem dL_law_358 : decode cL_law 358 = .ok (.invokevirtual 42, 3) := row_of dLc_347 9 rfl rfl
theorem dL_law_361 : decode cL_law 361 = .ok (.pop, 1) := row_of dLc_347 10 rfl rfl
theorem dL_law_362 : decode cL_law 362 = .ok (.goto 1474, 3) := row_of dLc_347 11 rfl rfl
theorem dL_law_365 : decode cL_law 365 = .ok (.aload_n 1, 1) := row_of dLc_347 12 rfl rfl
theorem dL_law_366 : decode cL_law 366 = .ok (.aload_n 0, 1) := row_of dLc_347 13 rfl rfl
theorem dL_law_367 : decode cL_law 367 = .ok (.iload 4, 2) := row_of dLc_347 14 rfl rfl
theorem dL_law_369 : decode cL_law 369 = .ok (.iconst 1, 1) := row_of dLc_347 15 rfl rfl
theorem dL_law_370 : decode cL_law 370 = .ok (.iadd, 1) := row_of dLc_347 16 rfl rfl
theorem dL_law_371 : decode cL_law 371 = .ok (.iaload, 1) := row_of dLc_347 17 rfl rfl
theorem dL_law_372 : decode cL_law 372 = .ok (.aload_n 0, 1) := row_of dLc_347 18 rfl rfl
theorem dL_law_373 : decode cL_law 373 = .ok (.iload 4, 2) := row_of dLc_347 19 rfl rfl
theorem dL_law_375 : decode cL_law 375 = .ok (.iconst 2, 1) := row_of dLc_347 20 rfl rfl
theorem dL_law_376 : decode cL_law 376 = .ok (.iadd, 1) := row_of dLc_347 21 rfl rfl
theorem dL_law_377 : decode cL_law 377 = .ok (.iaload, 1) := row_of dLc_347 22 rfl rfl
theorem dL_law_378 : decode cL_law 378 = .ok (.aload_n 0, 1) := row_of dLc_347 23 rfl rfl
theorem dL_law_379 : decode cL_law 379 = .ok (.iload 4, 2) := row_of dLc_347 24 rfl rfl
theorem dL_law_381 : decode cL_law 381 = .ok (.iconst 3, 1) := row_of dLc_347 25 rfl rfl
theorem dL_law_382 : decode cL_law 382 = .ok (.iadd, 1) := row_of dLc_347 26 rfl rfl
theorem dL_law_383 : decode cL_law 383 = .ok (.iaload, 1) := row_of dLc_347 27 rfl rfl
theorem dL_law_384 : decode cL_law 384 = .ok (.aload_n 3, 1) := row_of dLc_347 28 rfl rfl
theorem dL_law_385 : decode cL_law 385 = .ok (.invokestatic 43, 3) := row_of dLc_347 29 rfl rfl
theorem dL_law_388 : decode cL_law 388 = .ok (.istore 5, 2) := row_of dLc_347 30 rfl rfl
theorem dL_law_390 : decode cL_law 390 = .ok (.aload_n 2, 1) := row_of dLc_347 31 rfl rfl
theorem dL_law_391 : decode cL_law 391 = .ok (.aload_n 0, 1) := row_of dLc_347 32 rfl rfl
theorem dL_law_392 : decode cL_law 392 = .ok (.iload 4, 2) := row_of dLc_347 33 rfl rfl
theorem dL_law_394 : decode cL_law 394 = .ok (.iconst 1, 1) := row_of dLc_347 34 rfl rfl
theorem dL_law_395 : decode cL_law 395 = .ok (.iadd, 1) := row_of dLc_347 35 rfl rfl
theorem dL_law_396 : decode cL_law 396 = .ok (.iaload, 1) := row_of dLc_347 36 rfl rfl
theorem dL_law_397 : decode cL_law 397 = .ok (.aload_n 0, 1) := row_of dLc_347 37 rfl rfl
theorem dL_law_398 : decode cL_law 398 = .ok (.iload 4, 2) := row_of dLc_347 38 rfl rfl
theorem dL_law_400 : decode cL_law 400 = .ok (.iconst 2, 1) := row_of dLc_347 39 rfl rfl
theorem dL_law_401 : decode cL_law 401 = .ok (.iadd, 1) := row_of dLc_347 40 rfl rfl
theorem dL_law_402 : decode cL_law 402 = .ok (.iaload, 1) := row_of dLc_347 41 rfl rfl
theorem dL_law_403 : decode cL_law 403 = .ok (.aload_n 0, 1) := row_of dLc_347 42 rfl rfl
theorem dL_law_404 : decode cL_law 404 = .ok (.iload 4, 2) := row_of dLc_347 43 rfl rfl
theorem dL_law_406 : decode cL_law 406 = .ok (.iconst 3, 1) := row_of dLc_347 44 rfl rfl
theorem dL_law_407 : decode cL_law 407 = .ok (.iadd, 1) := row_of dLc_347 45 rfl rfl
theorem dL_law_408 : decode cL_law 408 = .ok (.iaload, 1) := row_of dLc_347 46 rfl rfl
theorem dL_law_409 : decode cL_law 409 = .ok (.invokevirtual 48, 3) := row_of dLc_347 47 rfl rfl
theorem dL_law_412 : decode cL_law 412 = .ok (.istore 6, 2) := row_of dLc_347 48 rfl rfl
theorem dL_law_414 : decode cL_law 414 = .ok (.goto 1422, 3) := row_of dLc_347 49 rfl rfl
theorem dL_law_417 : decode cL_law 417 = .ok (.aload_n 1, 1) := row_of dLc_347 50 rfl rfl
theorem dL_law_418 : decode cL_law 418 = .ok (.aload_n 0, 1) := row_of dLc_347 51 rfl rfl
theorem dL_law_419 : decode cL_law 419 = .ok (.iload 4, 2) := row_of dLc_347 52 rfl rfl
theorem dL_law_421 : decode cL_law 421 = .ok (.iconst 1, 1) := row_of dLc_347 53 rfl rfl
theorem dL_law_422 : decode cL_law 422 = .ok (.iadd, 1) := row_of dLc_347 54 rfl rfl
theorem dL_law_423 : decode cL_law 423 = .ok (.iaload, 1) := row_of dLc_347 55 rfl rfl
theorem dL_law_424 : decode cL_law 424 = .ok (.aload_n 0, 1) := row_of dLc_347 56 rfl rfl
theorem dL_law_425 : decode cL_law 425 = .ok (.iload 4, 2) := row_of dLc_347 57 rfl rfl
theorem dL_law_427 : decode cL_law 427 = .ok (.iconst 2, 1) := row_of dLc_347 58 rfl rfl
theorem dL_law_428 : decode cL_law 428 = .ok (.iadd, 1) := row_of dLc_347 59 rfl rfl
theorem dL_law_429 : decode cL_law 429 = .ok (.iaload, 1) := row_of dLc_347 60 rfl rfl
theorem dL_law_430 : decode cL_law 430 = .ok (.aload_n 0, 1) := row_of dLc_347 61 rfl rfl
theorem dL_law_431 : decode cL_law 431 = .ok (.iload 4, 2) := row_of dLc_347 62 rfl rfl
theorem dL_law_433 : decode cL_law 433 = .ok (.iconst 3, 1) := row_of dLc_347 63 rfl rfl
theorem dLc_434 : List.map (decode cL_law) [434, 435, 436, 439, 440, 441, 442, 444, 445, 446, 447, 448, 450, 451, 452, 453, 454, 456, 457, 458, 459, 462, 463, 466, 467, 468, 470, 471, 472, 473, 474, 476, 477, 478, 479, 480, 482, 483, 484, 485, 486, 488, 489, 490, 491, 494, 495, 496, 497, 499, 500, 501, 502, 503, 505, 506, 507, 508, 509, 511, 512, 513, 514, 515] = [.ok (.iadd, 1), .ok (.iaload, 1), .ok (.invokevirtual 49, 3), .ok (.pop, 1), .ok (.aload_n 2, 1), .ok (.aload_n 0, 1), .ok (.iload 4, 2), .ok (.iconst 1, 1), .ok (.iadd, 1), .ok (.iaload, 1), .ok (.aload_n 0, 1), .ok (.iload 4, 2), .ok (.iconst 2, 1), .ok (.iadd, 1), .ok (.iaload, 1), .ok (.aload_n 0, 1), .ok (.iload 4, 2), .ok (.iconst 3, 1), .ok (.iadd, 1), .ok (.iaload, 1), .ok (.invokevirtual 53, 3), .ok (.pop, 1), .ok (.goto 1373, 3), .ok (.aload_n 1, 1), .ok (.aload_n 0, 1), .ok (.iload 4, 2), .ok (.iconst 1, 1), .ok (.iadd, 1), .ok (.iaload, 1), .ok (.aload_n 0, 1), .ok (.iload 4, 2), .ok (.iconst 2, 1), .ok (.iadd, 1), .ok (.iaload, 1), .ok (.aload_n 0, 1), .ok (.iload 4, 2), .ok (.iconst 3, 1), .ok (.iadd, 1), .ok (.iaload, 1), .ok (.aload_n 0, 1), .ok (.iload 4, 2), .ok (.iconst 4, 1), .ok (.iadd, 1), .ok (.iaload, 1), .ok (.invokevirtual 54, 3), .ok (.pop, 1), .ok (.aload_n 2, 1), .ok (.aload_n 0, 1), .ok (.iload 4, 2), .ok (.iconst 1, 1), .ok (.iadd, 1), .ok (.iaload, 1), .ok (.aload_n 0, 1), .ok (.iload 4, 2), .ok (.iconst 2, 1), .ok (.iadd, 1), .ok (.iaload, 1), .ok (.aload_n 0, 1), .ok (.iload 4, 2), .ok (.iconst 3, 1), .ok (.iadd, 1), .ok (.iaload, 1), .ok (.aload_n 0, 1), .ok (.iload 4, 2)] := wk_map (t := [(434, .iadd, 1), (435, .iaload, 1), (436, .invokevirtual 49, 3), (439, .pop, 1), (440, .aload_n 2, 1), (441, .aload_n 0, 1), (442, .iload 4, 2), (444, .iconst 1, 1), (445, .iadd, 1), (446, .iaload, 1), (447, .aload_n 0, 1), (448, .iload 4, 2), (450, .iconst 2, 1), (451, .iadd, 1), (452, .iaload, 1), (453, .aload_n 0, 1), (454, .iload 4, 2), (456, .iconst 3, 1), (457, .iadd, 1), (458, .iaload, 1), (459, .invokevirtual 53, 3), (462, .pop, 1), (463, .goto 1373, 3), (466, .aload_n 1, 1), (467, .aload_n 0, 1), (468, .iload 4, 2), (470, .iconst 1, 1), (471, .iadd, 1), (472, .iaload, 1), (473, .aload_n 0, 1), (474, .iload 4, 2), (476, .iconst 2, 1), (477, .iadd, 1), (478, .iaload, 1), (479, .aload_n 0, 1), (480, .iload 4, 2), (482, .iconst 3, 1), (483, .iadd, 1), (484, .iaload, 1), (485, .aload_n 0, 1), (486, .iload 4, 2), (488, .iconst 4, 1), (489, .iadd, 1), (490, .iaload, 1), (491, .invokevirtual 54, 3), (494, .pop, 1), (495, .aload_n 2, 1), (496, .aload_n 0, 1), (497, .iload 4, 2), (499, .iconst 1, 1), (500, .iadd, 1), (501, .iaload, 1), (502, .aload_n 0, 1), (503, .iload 4, 2), (505, .iconst 2, 1), (506, .iadd, 1), (507, .iaload, 1), (508, .aload_n 0, 1), (509, .iload 4, 2), (511, .iconst 3, 1), (512, .iadd, 1), (513, .iaload, 1), (514, .aload_n 0, 1), (515, .iload 4, 2)]) (by decide +kernel)
theorem dL_law_434 : decode cL_law 434 = .ok (.iadd, 1) := row_of dLc_434 0 rfl rfl
theorem dL_law_435 : decode cL_law 435 = .ok (.iaload, 1) := row_of dLc_434 1 rfl rfl
theorem dL_law_436 : decode cL_law 436 = .ok (.invokevirtual 49, 3) := row_of dLc_434 2 rfl rfl
theorem dL_law_439 : decode cL_law 439 = .ok (.pop, 1) := row_of dLc_434 3 rfl rfl
theorem dL_law_440 : decode cL_law 440 = .ok (.aload_n 2, 1) := row_of dLc_434 4 rfl rfl
theorem dL_law_441 : decode cL_law 441 = .ok (.aload_n 0, 1) := row_of dLc_434 5 rfl rfl
theorem dL_law_442 : decode cL_law 442 = .ok (.iload 4, 2) := row_of dLc_434 6 rfl rfl
theorem dL_law_444 : decode cL_law 444 = .ok (.iconst 1, 1) := row_of dLc_434 7 rfl rfl
theorem dL_law_445 : decode cL_law 445 = .ok (.iadd, 1) := row_of dLc_434 8 rfl rfl
theorem dL_law_446 : decode cL_law 446 = .ok (.iaload, 1) := row_of dLc_434 9 rfl rfl
theorem dL_law_447 : decode cL_law 447 = .ok (.aload_n 0, 1) := row_of dLc_434 10 rfl rfl
theorem dL_law_448 : decode cL_law 448 = .ok (.iload 4, 2) := row_of dLc_434 11 rfl rfl
theorem dL_law_450 : decode cL_law 450 = .ok (.iconst 2, 1) := row_of dLc_434 12 rfl rfl
theorem dL_law_451 : decode cL_law 451 = .ok (.iadd, 1) := row_of dLc_434 13 rfl rfl
theorem dL_law_452 : decode cL_law 452 = .ok (.iaload, 1) := row_of dLc_434 14 rfl rfl
theorem dL_law_453 : decode cL_law 453 = .ok (.aload_n 0, 1) := row_of dLc_434 15 rfl rfl
theorem dL_law_454 : decode cL_law 454 = .ok (.iload 4, 2) := row_of dLc_434 16 rfl rfl
theorem dL_law_456 : decode cL_law 456 = .ok (.iconst 3, 1) := row_of dLc_434 17 rfl rfl
theorem dL_law_457 : decode cL_law 457 = .ok (.iadd, 1) := row_of dLc_434 18 rfl rfl
theorem dL_law_458 : decode cL_law 458 = .ok (.iaload, 1) := row_of dLc_434 19 rfl rfl
theorem dL_law_459 : decode cL_law 459 = .ok (.invokevirtual 53, 3) := row_of dLc_434 20 rfl rfl
theorem dL_law_462 : decode cL_law 462 = .ok (.pop, 1) := row_of dLc_434 21 rfl rfl
theorem dL_law_463 : decode cL_law 463 = .ok (.goto 1373, 3) := row_of dLc_434 22 rfl rfl
theorem dL_law_466 : decode cL_law 466 = .ok (.aload_n 1, 1) := row_of dLc_434 23 rfl rfl
theorem dL_law_467 : decode cL_law 467 = .ok (.aload_n 0, 1) := row_of dLc_434 24 rfl rfl
theorem dL_law_468 : decode cL_law 468 = .ok (.iload 4, 2) := row_of dLc_434 25 rfl rfl
theorem dL_law_470 : decode cL_law 470 = .ok (.iconst 1, 1) := row_of dLc_434 26 rfl rfl
theorem dL_law_471 : decode cL_law 471 = .ok (.iadd, 1) := row_of dLc_434 27 rfl rfl
theorem dL_law_472 : decode cL_law 472 = .ok (.iaload, 1) := row_of dLc_434 28 rfl rfl
theorem dL_law_473 : decode cL_law 473 = .ok (.aload_n 0, 1) := row_of dLc_434 29 rfl rfl
theorem dL_law_474 : decode cL_law 474 = .ok (.iload 4, 2) := row_of dLc_434 30 rfl rfl
theorem dL_law_476 : decode cL_law 476 = .ok (.iconst 2, 1) := row_of dLc_434 31 rfl rfl
theorem dL_law_477 : decode cL_law 477 = .ok (.iadd, 1) := row_of dLc_434 32 rfl rfl
theorem dL_law_478 : decode cL_law 478 = .ok (.iaload, 1) := row_of dLc_434 33 rfl rfl
theorem dL_law_479 : decode cL_law 479 = .ok (.aload_n 0, 1) := row_of dLc_434 34 rfl rfl
theorem dL_law_480 : decode cL_law 480 = .ok (.iload 4, 2) := row_of dLc_434 35 rfl rfl
theorem dL_law_482 : decode cL_law 482 = .ok (.iconst 3, 1) := row_of dLc_434 36 rfl rfl
theorem dL_law_483 : decode cL_law 483 = .ok (.iadd, 1) := row_of dLc_434 37 rfl rfl
theorem dL_law_484 : decode cL_law 484 = .ok (.iaload, 1) := row_of dLc_434 38 rfl rfl
theorem dL_law_485 : decode cL_law 485 = .ok (.aload_n 0, 1) := row_of dLc_434 39 rfl rfl
theorem dL_law_486 : decode cL_law 486 = .ok (.iload 4, 2) := row_of dLc_434 40 rfl rfl
theorem dL_law_488 : decode cL_law 488 = .ok (.iconst 4, 1) := row_of dLc_434 41 rfl rfl
theorem dL_law_489 : decode cL_law 489 = .ok (.iadd, 1) := row_of dLc_434 42 rfl rfl
theorem dL_law_490 : decode cL_law 490 = .ok (.iaload, 1) := row_of dLc_434 43 rfl rfl
theorem dL_law_491 : decode cL_law 491 = .ok (.invokevirtual 54, 3) := row_of dLc_434 44 rfl rfl
theorem dL_law_494 : decode cL_law 494 = .ok (.pop, 1) := row_of dLc_434 45 rfl rfl
theorem dL_law_495 : decode cL_law 495 = .ok (.aload_n 2, 1) := row_of dLc_434 46 rfl rfl
theorem dL_law_496 : decode cL_law 496 = .ok (.aload_n 0, 1) := row_of dLc_434 47 rfl rfl
theorem dL_law_497 : decode cL_law 497 = .ok (.iload 4, 2) := row_of dLc_434 48 rfl rfl
theorem dL_law_499 : decode cL_law 499 = .ok (.iconst 1, 1) := row_of dLc_434 49 rfl rfl
theorem dL_law_500 : decode cL_law 500 = .ok (.iadd, 1) := row_of dLc_434 50 rfl rfl
theorem dL_law_501 : decode cL_law 501 = .ok (.iaload, 1) := row_of dLc_434 51 rfl rfl
theorem dL_law_502 : decode cL_law 502 = .ok (.aload_n 0, 1) := row_of dLc_434 52 rfl rfl
theorem dL_law_503 : decode cL_law 503 = .ok (.iload 4, 2) := row_of dLc_434 53 rfl rfl
theorem dL_law_505 : decode cL_law 505 = .ok (.iconst 2, 1) := row_of dLc_434 54 rfl rfl
theorem dL_law_506 : decode cL_law 506 = .ok (.iadd, 1) := row_of dLc_434 55 rfl rfl
theorem dL_law_507 : decode cL_law 507 = .ok (.iaload, 1) := row_of dLc_434 56 rfl rfl
theorem dL_law_508 : decode cL_law 508 = .ok (.aload_n 0, 1) := row_of dLc_434 57 rfl rfl
theorem dL_law_509 : decode cL_law 509 = .ok (.iload 4, 2) := row_of dLc_434 58 rfl rfl
theorem dL_law_511 : decode cL_law 511 = .ok (.iconst 3, 1) := row_of dLc_434 59 rfl rfl
theorem dL_law_512 : decode cL_law 512 = .ok (.iadd, 1) := row_of dLc_434 60 rfl rfl
theorem dL_law_513 : decode cL_law 513 = .ok (.iaload, 1) := row_of dLc_434 61 rfl rfl
theorem dL_law_514 : decode cL_law 514 = .ok (.aload_n 0, 1) := row_of dLc_434 62 rfl rfl
theorem dL_law_515 : decode cL_law 515 = .ok (.iload 4, 2) := row_of dLc_434 63 rfl rfl
theorem dLc_517 : List.map (decode cL_law) [517, 518, 519, 520, 523, 524, 527, 528, 529, 531, 532, 533, 534, 537, 538, 539, 540, 542, 543, 544, 545, 548, 549, 552, 553, 554, 556, 557, 558, 559, 560, 562, 563, 564, 565, 566, 568, 569, 570, 571, 572, 574, 575, 576, 577, 578, 580, 581, 582, 583, 586, 587, 588, 589, 591, 592, 593, 594, 595, 597, 598, 599, 600, 601] = [.ok (.iconst 4, 1), .ok (.iadd, 1), .ok (.iaload, 1), .ok (.invokevirtual 58, 3), .ok (.pop, 1), .ok (.goto 1312, 3), .ok (.aload_n 1, 1), .ok (.aload_n 0, 1), .ok (.iload 4, 2), .ok (.iconst 1, 1), .ok (.iadd, 1), .ok (.iaload, 1), .ok (.invokevirtual 59, 3), .ok (.pop, 1), .ok (.aload_n 2, 1), .ok (.aload_n 0, 1), .ok (.iload 4, 2), .ok (.iconst 1, 1), .ok (.iadd, 1), .ok (.iaload, 1), .ok (.invokevirtual 63, 3), .ok (.pop, 1), .ok (.goto 1287, 3), .ok (.aload_n 1, 1), .ok (.aload_n 0, 1), .ok (.iload 4, 2), .ok (.iconst 1, 1), .ok (.iadd, 1), .ok (.iaload, 1), .ok (.aload_n 0, 1), .ok (.iload 4, 2), .ok (.iconst 2, 1), .ok (.iadd, 1), .ok (.iaload, 1), .ok (.aload_n 0, 1), .ok (.iload 4, 2), .ok (.iconst 3, 1), .ok (.iadd, 1), .ok (.iaload, 1), .ok (.aload_n 0, 1), .ok (.iload 4, 2), .ok (.iconst 4, 1), .ok (.iadd, 1), .ok (.iaload, 1), .ok (.aload_n 0, 1), .ok (.iload 4, 2), .ok (.iconst 5, 1), .ok (.iadd, 1), .ok (.iaload, 1), .ok (.invokevirtual 64, 3), .ok (.pop, 1), .ok (.aload_n 2, 1), .ok (.aload_n 0, 1), .ok (.iload 4, 2), .ok (.iconst 1, 1), .ok (.iadd, 1), .ok (.iaload, 1), .ok (.aload_n 0, 1), .ok (.iload 4, 2), .ok (.iconst 2, 1), .ok (.iadd, 1), .ok (.iaload, 1), .ok (.aload_n 0, 1), .ok (.iload 4, 2)] := wk_map (t := [(517, .iconst 4, 1), (518, .iadd, 1), (519, .iaload, 1), (520, .invokevirtual 58, 3), (523, .pop, 1), (524, .goto 1312, 3), (527, .aload_n 1, 1), (528, .aload_n 0, 1), (529, .iload 4, 2), (531, .iconst 1, 1), (532, .iadd, 1), (533, .iaload, 1), (534, .invokevirtual 59, 3), (537, .pop, 1), (538, .aload_n 2, 1), (539, .aload_n 0, 1), (540, .iload 4, 2), (542, .iconst 1, 1), (543, .iadd, 1), (544, .iaload, 1), (545, .invokevirtual 63, 3), (548, .pop, 1), (549, .goto 1287, 3), (552, .aload_n 1, 1), (553, .aload_n 0, 1), (554, .iload 4, 2), (556, .iconst 1, 1), (557, .iadd, 1), (558, .iaload, 1), (559, .aload_n 0, 1), (560, .iload 4, 2), (562, .iconst 2, 1), (563, .iadd, 1), (564, .iaload, 1), (565, .aload_n 0, 1), (566, .iload 4, 2), (568, .iconst 3, 1), (569, .iadd, 1), (570, .iaload, 1), (571, .aload_n 0, 1), (572, .iload 4, 2), (574, .iconst 4, 1), (575, .iadd, 1), (576, .iaload, 1), (577, .aload_n 0, 1), (578, .iload 4, 2), (580, .iconst 5, 1), (581, .iadd, 1), (582, .iaload, 1), (583, .invokevirtual 64, 3), (586, .pop, 1), (587, .aload_n 2, 1), (588, .aload_n 0, 1), (589, .iload 4, 2), (591, .iconst 1, 1), (592, .iadd, 1), (593, .iaload, 1), (594, .aload_n 0, 1), (595, .iload 4, 2), (597, .iconst 2, 1), (598, .iadd, 1), (599, .iaload, 1), (600, .aload_n 0, 1), (601, .iload 4, 2)]) (by decide +kernel)
theorem dL_law_517 : decode cL_law 517 = .ok (.iconst 4, 1) := row_of dLc_517 0 rfl rfl
theorem dL_law_518 : decode cL_law 518 = .ok (.iadd, 1) := row_of dLc_517 1 rfl rfl
theorem dL_law_519 : decode cL_law 519 = .ok (.iaload, 1) := row_of dLc_517 2 rfl rfl
theorem dL_law_520 : decode cL_law 520 = .ok (.invokevirtual 58, 3) := row_of dLc_517 3 rfl rfl
theorem dL_law_523 : decode cL_law 523 = .ok (.pop, 1) := row_of dLc_517 4 rfl rfl
theorem dL_law_524 : decode cL_law 524 = .ok (.goto 1312, 3) := row_of dLc_517 5 rfl rfl
theorem dL_law_527 : decode cL_law 527 = .ok (.aload_n 1, 1) := row_of dLc_517 6 rfl rfl
theorem dL_law_528 : decode cL_law 528 = .ok (.aload_n 0, 1) := row_of dLc_517 7 rfl rfl
theorem dL_law_529 : decode cL_law 529 = .ok (.iload 4, 2) := row_of dLc_517 8 rfl rfl
theorem dL_law_531 : decode cL_law 531 = .ok (.iconst 1, 1) := row_of dLc_517 9 rfl rfl
theorem dL_law_532 : decode cL_law 532 = .ok (.iadd, 1) := row_of dLc_517 10 rfl rfl
theorem dL_law_533 : decode cL_law 533 = .ok (.iaload, 1) := row_of dLc_517 11 rfl rfl
theorem dL_law_534 : decode cL_law 534 = .ok (.invokevirtual 59, 3) := row_of dLc_517 12 rfl rfl
theorem dL_law_537 : decode cL_law 537 = .ok (.pop, 1) := row_of dLc_517 13 rfl rfl
theorem dL_law_538 : decode cL_law 538 = .ok (.aload_n 2, 1) := row_of dLc_517 14 rfl rfl
theorem dL_law_539 : decode cL_law 539 = .ok (.aload_n 0, 1) := row_of dLc_517 15 rfl rfl
theorem dL_law_540 : decode cL_law 540 = .ok (.iload 4, 2) := row_of dLc_517 16 rfl rfl
theorem dL_law_542 : decode cL_law 542 = .ok (.iconst 1, 1) := row_of dLc_517 17 rfl rfl
theorem dL_law_543 : decode cL_law 543 = .ok (.iadd, 1) := row_of dLc_517 18 rfl rfl
theorem dL_law_544 : decode cL_law 544 = .ok (.iaload, 1) := row_of dLc_517 19 rfl rfl
theorem dL_law_545 : decode cL_law 545 = .ok (.invokevirtual 63, 3) := row_of dLc_517 20 rfl rfl
theorem dL_law_548 : decode cL_law 548 = .ok (.pop, 1) := row_of dLc_517 21 rfl rfl
theorem dL_law_549 : decode cL_law 549 = .ok (.goto 1287, 3) := row_of dLc_517 22 rfl rfl
theorem dL_law_552 : decode cL_law 552 = .ok (.aload_n 1, 1) := row_of dLc_517 23 rfl rfl
theorem dL_law_553 : decode cL_law 553 = .ok (.aload_n 0, 1) := row_of dLc_517 24 rfl rfl
theorem dL_law_554 : decode cL_law 554 = .ok (.iload 4, 2) := row_of dLc_517 25 rfl rfl
theorem dL_law_556 : decode cL_law 556 = .ok (.iconst 1, 1) := row_of dLc_517 26 rfl rfl
theorem dL_law_557 : decode cL_law 557 = .ok (.iadd, 1) := row_of dLc_517 27 rfl rfl
theorem dL_law_558 : decode cL_law 558 = .ok (.iaload, 1) := row_of dLc_517 28 rfl rfl
theorem dL_law_559 : decode cL_law 559 = .ok (.aload_n 0, 1) := row_of dLc_517 29 rfl rfl
theorem dL_law_560 : decode cL_law 560 = .ok (.iload 4, 2) := row_of dLc_517 30 rfl rfl
theorem dL_law_562 : decode cL_law 562 = .ok (.iconst 2, 1) := row_of dLc_517 31 rfl rfl
theorem dL_law_563 : decode cL_law 563 = .ok (.iadd, 1) := row_of dLc_517 32 rfl rfl
theorem dL_law_564 : decode cL_law 564 = .ok (.iaload, 1) := row_of dLc_517 33 rfl rfl
theorem dL_law_565 : decode cL_law 565 = .ok (.aload_n 0, 1) := row_of dLc_517 34 rfl rfl
theorem dL_law_566 : decode cL_law 566 = .ok (.iload 4, 2) := row_of dLc_517 35 rfl rfl
theorem dL_law_568 : decode cL_law 568 = .ok (.iconst 3, 1) := row_of dLc_517 36 rfl rfl
theorem dL_law_569 : decode cL_law 569 = .ok (.iadd, 1) := row_of dLc_517 37 rfl rfl
theorem dL_law_570 : decode cL_law 570 = .ok (.iaload, 1) := row_of dLc_517 38 rfl rfl
theorem dL_law_571 : decode cL_law 571 = .ok (.aload_n 0, 1) := row_of dLc_517 39 rfl rfl
theorem dL_law_572 : decode cL_law 572 = .ok (.iload 4, 2) := row_of dLc_517 40 rfl rfl
theorem dL_law_574 : decode cL_law 574 = .ok (.iconst 4, 1) := row_of dLc_517 41 rfl rfl
theorem dL_law_575 : decode cL_law 575 = .ok (.iadd, 1) := row_of dLc_517 42 rfl rfl
theorem dL_law_576 : decode cL_law 576 = .ok (.iaload, 1) := row_of dLc_517 43 rfl rfl
theorem dL_law_577 : decode cL_law 577 = .ok (.aload_n 0, 1) := row_of dLc_517 44 rfl rfl
theorem dL_law_578 : decode cL_law 578 = .ok (.iload 4, 2) := row_of dLc_517 45 rfl rfl
theorem dL_law_580 : decode cL_law 580 = .ok (.iconst 5, 1) := row_of dLc_517 46 rfl rfl
theorem dL_law_581 : decode cL_law 581 = .ok (.iadd, 1) := row_of dLc_517 47 rfl rfl
theorem dL_law_582 : decode cL_law 582 = .ok (.iaload, 1) := row_of dLc_517 48 rfl rfl
theorem dL_law_583 : decode cL_law 583 = .ok (.invokevirtual 64, 3) := row_of dLc_517 49 rfl rfl
theorem dL_law_586 : decode cL_law 586 = .ok (.pop, 1) := row_of dLc_517 50 rfl rfl
theorem dL_law_587 : decode cL_law 587 = .ok (.aload_n 2, 1) := row_of dLc_517 51 rfl rfl
theorem dL_law_588 : decode cL_law 588 = .ok (.aload_n 0, 1) := row_of dLc_517 52 rfl rfl
theorem dL_law_589 : decode cL_law 589 = .ok (.iload 4, 2) := row_of dLc_517 53 rfl rfl
theorem dL_law_591 : decode cL_law 591 = .ok (.iconst 1, 1) := row_of dLc_517 54 rfl rfl
theorem dL_law_592 : decode cL_law 592 = .ok (.iadd, 1) := row_of dLc_517 55 rfl rfl
theorem dL_law_593 : decode cL_law 593 = .ok (.iaload, 1) := row_of dLc_517 56 rfl rfl
theorem dL_law_594 : decode cL_law 594 = .ok (.aload_n 0, 1) := row_of dLc_517 57 rfl rfl
theorem dL_law_595 : decode cL_law 595 = .ok (.iload 4, 2) := row_of dLc_517 58 rfl rfl
theorem dL_law_597 : decode cL_law 597 = .ok (.iconst 2, 1) := row_of dLc_517 59 rfl rfl
theorem dL_law_598 : decode cL_law 598 = .ok (.iadd, 1) := row_of dLc_517 60 rfl rfl
theorem dL_law_599 : decode cL_law 599 = .ok (.iaload, 1) := row_of dLc_517 61 rfl rfl
theorem dL_law_600 : decode cL_law 600 = .ok (.aload_n 0, 1) := row_of dLc_517 62 rfl rfl
theorem dL_law_601 : decode cL_law 601 = .ok (.iload 4, 2) := row_of dLc_517 63 rfl rfl
theorem dLc_603 : List.map (decode cL_law) [603, 604, 605, 606, 607, 609, 610, 611, 612, 613, 615, 616, 617, 618, 621, 622, 625, 626, 627, 629, 630, 631, 632, 633, 635, 636, 637, 638, 641, 642, 643, 644, 646, 647, 648, 649, 650, 652, 653, 654, 655, 658, 659, 662, 663, 664, 666, 667, 668, 669, 672, 673, 674, 675, 677, 678, 679, 680, 683, 684, 687, 688, 689, 691] = [.ok (.iconst 3, 1), .ok (.iadd, 1), .ok (.iaload, 1), .ok (.aload_n 0, 1), .ok (.iload 4, 2), .ok (.iconst 4, 1), .ok (.iadd, 1), .ok (.iaload, 1), .ok (.aload_n 0, 1), .ok (.iload 4, 2), .ok (.iconst 5, 1), .ok (.iadd, 1), .ok (.iaload, 1), .ok (.invokevirtual 67, 3), .ok (.pop, 1), .ok (.goto 1214, 3), .ok (.aload_n 1, 1), .ok (.aload_n 0, 1), .ok (.iload 4, 2), .ok (.iconst 1, 1), .ok (.iadd, 1), .ok (.iaload, 1), .ok (.aload_n 0, 1), .ok (.iload 4, 2), .ok (.iconst 2, 1), .ok (.iadd, 1), .ok (.iaload, 1), .ok (.invokevirtual 68, 3), .ok (.pop, 1), .ok (.aload_n 2, 1), .ok (.aload_n 0, 1), .ok (.iload 4, 2), .ok (.iconst 1, 1), .ok (.iadd, 1), .ok (.iaload, 1), .ok (.aload_n 0, 1), .ok (.iload 4, 2), .ok (.iconst 2, 1), .ok (.iadd, 1), .ok (.iaload, 1), .ok (.invokevirtual 71, 3), .ok (.pop, 1), .ok (.goto 1177, 3), .ok (.aload_n 1, 1), .ok (.aload_n 0, 1), .ok (.iload 4, 2), .ok (.iconst 1, 1), .ok (.iadd, 1), .ok (.iaload, 1), .ok (.invokevirtual 72, 3), .ok (.pop, 1), .ok (.aload_n 2, 1), .ok (.aload_n 0, 1), .ok (.iload 4, 2), .ok (.iconst 1, 1), .ok (.iadd, 1), .ok (.iaload, 1), .ok (.invokevirtual 75, 3), .ok (.pop, 1), .ok (.goto 1152, 3), .ok (.aload_n 1, 1), .ok (.aload_n 0, 1), .ok (.iload 4, 2), .ok (.iconst 1, 1)] := wk_map (t := [(603, .iconst 3, 1), (604, .iadd, 1), (605, .iaload, 1), (606, .aload_n 0, 1), (607, .iload 4, 2), (609, .iconst 4, 1), (610, .iadd, 1), (611, .iaload, 1), (612, .aload_n 0, 1), (613, .iload 4, 2), (615, .iconst 5, 1), (616, .iadd, 1), (617, .iaload, 1), (618, .invokevirtual 67, 3), (621, .pop, 1), (622, .goto 1214, 3), (625, .aload_n 1, 1), (626, .aload_n 0, 1), (627, .iload 4, 2), (629, .iconst 1, 1), (630, .iadd, 1), (631, .iaload, 1), (632, .aload_n 0, 1), (633, .iload 4, 2), (635, .iconst 2, 1), (636, .iadd, 1), (637, .iaload, 1), (638, .invokevirtual 68, 3), (641, .pop, 1), (642, .aload_n 2, 1), (643, .aload_n 0, 1), (644, .iload 4, 2), (646, .iconst 1, 1), (647, .iadd, 1), (648, .iaload, 1), (649, .aload_n 0, 1), (650, .iload 4, 2), (652, .iconst 2, 1), (653, .iadd, 1), (654, .iaload, 1), (655, .invokevirtual 71, 3), (658, .pop, 1), (659, .goto 1177, 3), (662, .aload_n 1, 1), (663, .aload_n 0, 1), (664, .iload 4, 2), (666, .iconst 1, 1), (667, .iadd, 1), (668, .iaload, 1), (669, .invokevirtual 72, 3), (672, .pop, 1), (673, .aload_n 2, 1), (674, .aload_n 0, 1), (675, .iload 4, 2), (677, .iconst 1, 1), (678, .iadd, 1), (679, .iaload, 1), (680, .invokevirtual 75, 3), (683, .pop, 1), (684, .goto 1152, 3), (687, .aload_n 1, 1), (688, .aload_n 0, 1), (689, .iload 4, 2), (691, .iconst 1, 1)]) (by decide +kernel)
theorem dL_law_603 : decode cL_law 603 = .ok (.iconst 3, 1) := row_of dLc_603 0 rfl rfl
theorem dL_law_604 : decode cL_law 604 = .ok (.iadd, 1) := row_of dLc_603 1 rfl rfl
theorem dL_law_605 : decode cL_law 605 = .ok (.iaload, 1) := row_of dLc_603 2 rfl rfl
theorem dL_law_606 : decode cL_law 606 = .ok (.aload_n 0, 1) := row_of dLc_603 3 rfl rfl
theorem dL_law_607 : decode cL_law 607 = .ok (.iload 4, 2) := row_of dLc_603 4 rfl rfl
theorem dL_law_609 : decode cL_law 609 = .ok (.iconst 4, 1) := row_of dLc_603 5 rfl rfl
theorem dL_law_610 : decode cL_law 610 = .ok (.iadd, 1) := row_of dLc_603 6 rfl rfl
theorem dL_law_611 : decode cL_law 611 = .ok (.iaload, 1) := row_of dLc_603 7 rfl rfl
theorem dL_law_612 : decode cL_law 612 = .ok (.aload_n 0, 1) := row_of dLc_603 8 rfl rfl
theorem dL_law_613 : decode cL_law 613 = .ok (.iload 4, 2) := row_of dLc_603 9 rfl rfl
theorem dL_law_615 : decode cL_law 615 = .ok (.iconst 5, 1) := row_of dLc_603 10 rfl rfl
theorem dL_law_616 : decode cL_law 616 = .ok (.iadd, 1) := row_of dLc_603 11 rfl rfl
theorem dL_law_617 : decode cL_law 617 = .ok (.iaload, 1) := row_of dLc_603 12 rfl rfl
theorem dL_law_618 : decode cL_law 618 = .ok (.invokevirtual 67, 3) := row_of dLc_603 13 rfl rfl
theorem dL_law_621 : decode cL_law 621 = .ok (.pop, 1) := row_of dLc_603 14 rfl rfl
theorem dL_law_622 : decode cL_law 622 = .ok (.goto 1214, 3) := row_of dLc_603 15 rfl rfl
theorem dL_law_625 : decode cL_law 625 = .ok (.aload_n 1, 1) := row_of dLc_603 16 rfl rfl
theorem dL_law_626 : decode cL_law 626 = .ok (.aload_n 0, 1) := row_of dLc_603 17 rfl rfl
theorem dL_law_627 : decode cL_law 627 = .ok (.iload 4, 2) := row_of dLc_603 18 rfl rfl
theorem dL_law_629 : decode cL_law 629 = .ok (.iconst 1, 1) := row_of dLc_603 19 rfl rfl
theorem dL_law_630 : decode cL_law 630 = .ok (.iadd, 1) := row_of dLc_603 20 rfl rfl
theorem dL_law_631 : decode cL_law 631 = .ok (.iaload, 1) := row_of dLc_603 21 rfl rfl
theorem dL_law_632 : decode cL_law 632 = .ok (.aload_n 0, 1) := row_of dLc_603 22 rfl rfl
theorem dL_law_633 : decode cL_law 633 = .ok (.iload 4, 2) := row_of dLc_603 23 rfl rfl
theorem dL_law_635 : decode cL_law 635 = .ok (.iconst 2, 1) := row_of dLc_603 24 rfl rfl
theorem dL_law_636 : decode cL_law 636 = .ok (.iadd, 1) := row_of dLc_603 25 rfl rfl
theorem dL_law_637 : decode cL_law 637 = .ok (.iaload, 1) := row_of dLc_603 26 rfl rfl
theorem dL_law_638 : decode cL_law 638 = .ok (.invokevirtual 68, 3) := row_of dLc_603 27 rfl rfl
theorem dL_law_641 : decode cL_law 641 = .ok (.pop, 1) := row_of dLc_603 28 rfl rfl
theorem dL_law_642 : decode cL_law 642 = .ok (.aload_n 2, 1) := row_of dLc_603 29 rfl rfl
theorem dL_law_643 : decode cL_law 643 = .ok (.aload_n 0, 1) := row_of dLc_603 30 rfl rfl
theorem dL_law_644 : decode cL_law 644 = .ok (.iload 4, 2) := row_of dLc_603 31 rfl rfl
theorem dL_law_646 : decode cL_law 646 = .ok (.iconst 1, 1) := row_of dLc_603 32 rfl rfl
theorem dL_law_647 : decode cL_law 647 = .ok (.iadd, 1) := row_of dLc_603 33 rfl rfl
theorem dL_law_648 : decode cL_law 648 = .ok (.iaload, 1) := row_of dLc_603 34 rfl rfl
theorem dL_law_649 : decode cL_law 649 = .ok (.aload_n 0, 1) := row_of dLc_603 35 rfl rfl
theorem dL_law_650 : decode cL_law 650 = .ok (.iload 4, 2) := row_of dLc_603 36 rfl rfl
theorem dL_law_652 : decode cL_law 652 = .ok (.iconst 2, 1) := row_of dLc_603 37 rfl rfl
theorem dL_law_653 : decode cL_law 653 = .ok (.iadd, 1) := row_of dLc_603 38 rfl rfl
theorem dL_law_654 : decode cL_law 654 = .ok (.iaload, 1) := row_of dLc_603 39 rfl rfl
theorem dL_law_655 : decode cL_law 655 = .ok (.invokevirtual 71, 3) := row_of dLc_603 40 rfl rfl
theorem dL_law_658 : decode cL_law 658 = .ok (.pop, 1) := row_of dLc_603 41 rfl rfl
theorem dL_law_659 : decode cL_law 659 = .ok (.goto 1177, 3) := row_of dLc_603 42 rfl rfl
theorem dL_law_662 : decode cL_law 662 = .ok (.aload_n 1, 1) := row_of dLc_603 43 rfl rfl
theorem dL_law_663 : decode cL_law 663 = .ok (.aload_n 0, 1) := row_of dLc_603 44 rfl rfl
theorem dL_law_664 : decode cL_law 664 = .ok (.iload 4, 2) := row_of dLc_603 45 rfl rfl
theorem dL_law_666 : decode cL_law 666 = .ok (.iconst 1, 1) := row_of dLc_603 46 rfl rfl
theorem dL_law_667 : decode cL_law 667 = .ok (.iadd, 1) := row_of dLc_603 47 rfl rfl
theorem dL_law_668 : decode cL_law 668 = .ok (.iaload, 1) := row_of dLc_603 48 rfl rfl
theorem dL_law_669 : decode cL_law 669 = .ok (.invokevirtual 72, 3) := row_of dLc_603 49 rfl rfl
theorem dL_law_672 : decode cL_law 672 = .ok (.pop, 1) := row_of dLc_603 50 rfl rfl
theorem dL_law_673 : decode cL_law 673 = .ok (.aload_n 2, 1) := row_of dLc_603 51 rfl rfl
theorem dL_law_674 : decode cL_law 674 = .ok (.aload_n 0, 1) := row_of dLc_603 52 rfl rfl
theorem dL_law_675 : decode cL_law 675 = .ok (.iload 4, 2) := row_of dLc_603 53 rfl rfl
theorem dL_law_677 : decode cL_law 677 = .ok (.iconst 1, 1) := row_of dLc_603 54 rfl rfl
theorem dL_law_678 : decode cL_law 678 = .ok (.iadd, 1) := row_of dLc_603 55 rfl rfl
theorem dL_law_679 : decode cL_law 679 = .ok (.iaload, 1) := row_of dLc_603 56 rfl rfl
theorem dL_law_680 : decode cL_law 680 = .ok (.invokevirtual 75, 3) := row_of dLc_603 57 rfl rfl
theorem dL_law_683 : decode cL_law 683 = .ok (.pop, 1) := row_of dLc_603 58 rfl rfl
theorem dL_law_684 : decode cL_law 684 = .ok (.goto 1152, 3) := row_of dLc_603 59 rfl rfl
theorem dL_law_687 : decode cL_law 687 = .ok (.aload_n 1, 1) := row_of dLc_603 60 rfl rfl
theorem dL_law_688 : decode cL_law 688 = .ok (.aload_n 0, 1) := row_of dLc_603 61 rfl rfl
theorem dL_law_689 : decode cL_law 689 = .ok (.iload 4, 2) := row_of dLc_603 62 rfl rfl
theorem dL_law_691 : decode cL_law 691 = .ok (.iconst 1, 1) := row_of dLc_603 63 rfl rfl
theorem dLc_692 : List.map (decode cL_law) [692, 693, 694, 695, 697, 698, 699, 700, 701, 703, 704, 705, 706, 709, 710, 711, 712, 714, 715, 716, 717, 718, 720, 721, 722, 723, 724, 726, 727, 728, 729, 732, 733, 736, 737, 738, 740, 741, 742, 743, 744, 746, 747, 748, 749, 750, 752, 753, 754, 755, 758, 759, 760, 761, 763, 764, 765, 766, 767, 769, 770, 771, 772, 773] = [.ok (.iadd, 1), .ok (.iaload, 1), .ok (.aload_n 0, 1), .ok (.iload 4, 2), .ok (.iconst 2, 1), .ok (.iadd, 1), .ok (.iaload, 1), .ok (.aload_n 0, 1), .ok (.iload 4, 2), .ok (.iconst 3, 1), .ok (.iadd, 1), .ok (.iaload, 1), .ok (.invokevirtual 76, 3), .ok (.pop, 1), .ok (.aload_n 2, 1), .ok (.aload_n 0, 1), .ok (.iload 4, 2), .ok (.iconst 1, 1), .ok (.iadd, 1), .ok (.iaload, 1), .ok (.aload_n 0, 1), .ok (.iload 4, 2), .ok (.iconst 2, 1), .ok (.iadd, 1), .ok (.iaload, 1), .ok (.aload_n 0, 1), .ok (.iload 4, 2), .ok (.iconst 3, 1), .ok (.iadd, 1), .ok (.iaload, 1), .ok (.invokevirtual 79, 3), .ok (.pop, 1), .ok (.goto 1103, 3), .ok (.aload_n 1, 1), .ok (.aload_n 0, 1), .ok (.iload 4, 2), .ok (.iconst 1, 1), .ok (.iadd, 1), .ok (.iaload, 1), .ok (.aload_n 0, 1), .ok (.iload 4, 2), .ok (.iconst 2, 1), .ok (.iadd, 1), .ok (.iaload, 1), .ok (.aload_n 0, 1), .ok (.iload 4, 2), .ok (.iconst 3, 1), .ok (.iadd, 1), .ok (.iaload, 1), .ok (.invokevirtual 80, 3), .ok (.pop, 1), .ok (.aload_n 2, 1), .ok (.aload_n 0, 1), .ok (.iload 4, 2), .ok (.iconst 1, 1), .ok (.iadd, 1), .ok (.iaload, 1), .ok (.aload_n 0, 1), .ok (.iload 4, 2), .ok (.iconst 2, 1), .ok (.iadd, 1), .ok (.iaload, 1), .ok (.aload_n 0, 1), .ok (.iload 4, 2)] := wk_map (t := [(692, .iadd, 1), (693, .iaload, 1), (694, .aload_n 0, 1), (695, .iload 4, 2), (697, .iconst 2, 1), (698, .iadd, 1), (699, .iaload, 1), (700, .aload_n 0, 1), (701, .iload 4, 2), (703, .iconst 3, 1), (704, .iadd, 1), (705, .iaload, 1), (706, .invokevirtual 76, 3), (709, .pop, 1), (710, .aload_n 2, 1), (711, .aload_n 0, 1), (712, .iload 4, 2), (714, .iconst 1, 1), (715, .iadd, 1), (716, .iaload, 1), (717, .aload_n 0, 1), (718, .iload 4, 2), (720, .iconst 2, 1), (721, .iadd, 1), (722, .iaload, 1), (723, .aload_n 0, 1), (724, .iload 4, 2), (726, .iconst 3, 1), (727, .iadd, 1), (728, .iaload, 1), (729, .invokevirtual 79, 3), (732, .pop, 1), (733, .goto 1103, 3), (736, .aload_n 1, 1), (737, .aload_n 0, 1), (738, .iload 4, 2), (740, .iconst 1, 1), (741, .iadd, 1), (742, .iaload, 1), (743, .aload_n 0, 1), (744, .iload 4, 2), (746, .iconst 2, 1), (747, .iadd, 1), (748, .iaload, 1), (749, .aload_n 0, 1), (750, .iload 4, 2), (752, .iconst 3, 1), (753, .iadd, 1), (754, .iaload, 1), (755, .invokevirtual 80, 3), (758, .pop, 1), (759, .aload_n 2, 1), (760, .aload_n 0, 1), (761, .iload 4, 2), (763, .iconst 1, 1), (764, .iadd, 1), (765, .iaload, 1), (766, .aload_n 0, 1), (767, .iload 4, 2), (769, .iconst 2, 1), (770, .iadd, 1), (771, .iaload, 1), (772, .aload_n 0, 1), (773, .iload 4, 2)]) (by decide +kernel)
theorem dL_law_692 : decode cL_law 692 = .ok (.iadd, 1) := row_of dLc_692 0 rfl rfl
theorem dL_law_693 : decode cL_law 693 = .ok (.iaload, 1) := row_of dLc_692 1 rfl rfl
theorem dL_law_694 : decode cL_law 694 = .ok (.aload_n 0, 1) := row_of dLc_692 2 rfl rfl
theorem dL_law_695 : decode cL_law 695 = .ok (.iload 4, 2) := row_of dLc_692 3 rfl rfl
theorem dL_law_697 : decode cL_law 697 = .ok (.iconst 2, 1) := row_of dLc_692 4 rfl rfl
theorem dL_law_698 : decode cL_law 698 = .ok (.iadd, 1) := row_of dLc_692 5 rfl rfl
theorem dL_law_699 : decode cL_law 699 = .ok (.iaload, 1) := row_of dLc_692 6 rfl rfl
theorem dL_law_700 : decode cL_law 700 = .ok (.aload_n 0, 1) := row_of dLc_692 7 rfl rfl
theorem dL_law_701 : decode cL_law 701 = .ok (.iload 4, 2) := row_of dLc_692 8 rfl rfl
theorem dL_law_703 : decode cL_law 703 = .ok (.iconst 3, 1) := row_of dLc_692 9 rfl rfl
theorem dL_law_704 : decode cL_law 704 = .ok (.iadd, 1) := row_of dLc_692 10 rfl rfl
theorem dL_law_705 : decode cL_law 705 = .ok (.iaload, 1) := row_of dLc_692 11 rfl rfl
theorem dL_law_706 : decode cL_law 706 = .ok (.invokevirtual 76, 3) := row_of dLc_692 12 rfl rfl
theorem dL_law_709 : decode cL_law 709 = .ok (.pop, 1) := row_of dLc_692 13 rfl rfl
theorem dL_law_710 : decode cL_law 710 = .ok (.aload_n 2, 1) := row_of dLc_692 14 rfl rfl
theorem dL_law_711 : decode cL_law 711 = .ok (.aload_n 0, 1) := row_of dLc_692 15 rfl rfl
theorem dL_law_712 : decode cL_law 712 = .ok (.iload 4, 2) := row_of dLc_692 16 rfl rfl
theorem dL_law_714 : decode cL_law 714 = .ok (.iconst 1, 1) := row_of dLc_692 17 rfl rfl
theorem dL_law_715 : decode cL_law 715 = .ok (.iadd, 1) := row_of dLc_692 18 rfl rfl
theorem dL_law_716 : decode cL_law 716 = .ok (.iaload, 1) := row_of dLc_692 19 rfl rfl
theorem dL_law_717 : decode cL_law 717 = .ok (.aload_n 0, 1) := row_of dLc_692 20 rfl rfl
theorem dL_law_718 : decode cL_law 718 = .ok (.iload 4, 2) := row_of dLc_692 21 rfl rfl
theorem dL_law_720 : decode cL_law 720 = .ok (.iconst 2, 1) := row_of dLc_692 22 rfl rfl
theorem dL_law_721 : decode cL_law 721 = .ok (.iadd, 1) := row_of dLc_692 23 rfl rfl
theorem dL_law_722 : decode cL_law 722 = .ok (.iaload, 1) := row_of dLc_692 24 rfl rfl
theorem dL_law_723 : decode cL_law 723 = .ok (.aload_n 0, 1) := row_of dLc_692 25 rfl rfl
theorem dL_law_724 : decode cL_law 724 = .ok (.iload 4, 2) := row_of dLc_692 26 rfl rfl
theorem dL_law_726 : decode cL_law 726 = .ok (.iconst 3, 1) := row_of dLc_692 27 rfl rfl
theorem dL_law_727 : decode cL_law 727 = .ok (.iadd, 1) := row_of dLc_692 28 rfl rfl
theorem dL_law_728 : decode cL_law 728 = .ok (.iaload, 1) := row_of dLc_692 29 rfl rfl
theorem dL_law_729 : decode cL_law 729 = .ok (.invokevirtual 79, 3) := row_of dLc_692 30 rfl rfl
theorem dL_law_732 : decode cL_law 732 = .ok (.pop, 1) := row_of dLc_692 31 rfl rfl
theorem dL_law_733 : decode cL_law 733 = .ok (.goto 1103, 3) := row_of dLc_692 32 rfl rfl
theorem dL_law_736 : decode cL_law 736 = .ok (.aload_n 1, 1) := row_of dLc_692 33 rfl rfl
theorem dL_law_737 : decode cL_law 737 = .ok (.aload_n 0, 1) := row_of dLc_692 34 rfl rfl
theorem dL_law_738 : decode cL_law 738 = .ok (.iload 4, 2) := row_of dLc_692 35 rfl rfl
theorem dL_law_740 : decode cL_law 740 = .ok (.iconst 1, 1) := row_of dLc_692 36 rfl rfl
theorem dL_law_741 : decode cL_law 741 = .ok (.iadd, 1) := row_of dLc_692 37 rfl rfl
theorem dL_law_742 : decode cL_law 742 = .ok (.iaload, 1) := row_of dLc_692 38 rfl rfl
theorem dL_law_743 : decode cL_law 743 = .ok (.aload_n 0, 1) := row_of dLc_692 39 rfl rfl
theorem dL_law_744 : decode cL_law 744 = .ok (.iload 4, 2) := row_of dLc_692 40 rfl rfl
theorem dL_law_746 : decode cL_law 746 = .ok (.iconst 2, 1) := row_of dLc_692 41 rfl rfl
theorem dL_law_747 : decode cL_law 747 = .ok (.iadd, 1) := row_of dLc_692 42 rfl rfl
theorem dL_law_748 : decode cL_law 748 = .ok (.iaload, 1) := row_of dLc_692 43 rfl rfl
theorem dL_law_749 : decode cL_law 749 = .ok (.aload_n 0, 1) := row_of dLc_692 44 rfl rfl
theorem dL_law_750 : decode cL_law 750 = .ok (.iload 4, 2) := row_of dLc_692 45 rfl rfl
theorem dL_law_752 : decode cL_law 752 = .ok (.iconst 3, 1) := row_of dLc_692 46 rfl rfl
theorem dL_law_753 : decode cL_law 753 = .ok (.iadd, 1) := row_of dLc_692 47 rfl rfl
theorem dL_law_754 : decode cL_law 754 = .ok (.iaload, 1) := row_of dLc_692 48 rfl rfl
theorem dL_law_755 : decode cL_law 755 = .ok (.invokevirtual 80, 3) := row_of dLc_692 49 rfl rfl
theorem dL_law_758 : decode cL_law 758 = .ok (.pop, 1) := row_of dLc_692 50 rfl rfl
theorem dL_law_759 : decode cL_law 759 = .ok (.aload_n 2, 1) := row_of dLc_692 51 rfl rfl
theorem dL_law_760 : decode cL_law 760 = .ok (.aload_n 0, 1) := row_of dLc_692 52 rfl rfl
theorem dL_law_761 : decode cL_law 761 = .ok (.iload 4, 2) := row_of dLc_692 53 rfl rfl
theorem dL_law_763 : decode cL_law 763 = .ok (.iconst 1, 1) := row_of dLc_692 54 rfl rfl
theorem dL_law_764 : decode cL_law 764 = .ok (.iadd, 1) := row_of dLc_692 55 rfl rfl
theorem dL_law_765 : decode cL_law 765 = .ok (.iaload, 1) := row_of dLc_692 56 rfl rfl
theorem dL_law_766 : decode cL_law 766 = .ok (.aload_n 0, 1) := row_of dLc_692 57 rfl rfl
theorem dL_law_767 : decode cL_law 767 = .ok (.iload 4, 2) := row_of dLc_692 58 rfl rfl
theorem dL_law_769 : decode cL_law 769 = .ok (.iconst 2, 1) := row_of dLc_692 59 rfl rfl
theorem dL_law_770 : decode cL_law 770 = .ok (.iadd, 1) := row_of dLc_692 60 rfl rfl
theorem dL_law_771 : decode cL_law 771 = .ok (.iaload, 1) := row_of dLc_692 61 rfl rfl
theorem dL_law_772 : decode cL_law 772 = .ok (.aload_n 0, 1) := row_of dLc_692 62 rfl rfl
theorem dL_law_773 : decode cL_law 773 = .ok (.iload 4, 2) := row_of dLc_692 63 rfl rfl
theorem dLc_775 : List.map (decode cL_law) [775, 776, 777, 778, 781, 782, 785, 786, 787, 789, 790, 791, 792, 793, 795, 796, 797, 798, 801, 802, 803, 804, 806, 807, 808, 809, 810, 812, 813, 814, 815, 818, 819, 822, 823, 824, 826, 827, 828, 829, 830, 832, 833, 834, 835, 836, 838, 839, 840, 841, 844, 845, 846, 847, 849, 850, 851, 852, 853, 855, 856, 857, 858, 859] = [.ok (.iconst 3, 1), .ok (.iadd, 1), .ok (.iaload, 1), .ok (.invokevirtual 83, 3), .ok (.pop, 1), .ok (.goto 1054, 3), .ok (.aload_n 1, 1), .ok (.aload_n 0, 1), .ok (.iload 4, 2), .ok (.iconst 1, 1), .ok (.iadd, 1), .ok (.iaload, 1), .ok (.aload_n 0, 1), .ok (.iload 4, 2), .ok (.iconst 2, 1), .ok (.iadd, 1), .ok (.iaload, 1), .ok (.invokevirtual 84, 3), .ok (.pop, 1), .ok (.aload_n 2, 1), .ok (.aload_n 0, 1), .ok (.iload 4, 2), .ok (.iconst 1, 1), .ok (.iadd, 1), .ok (.iaload, 1), .ok (.aload_n 0, 1), .ok (.iload 4, 2), .ok (.iconst 2, 1), .ok (.iadd, 1), .ok (.iaload, 1), .ok (.invokevirtual 87, 3), .ok (.pop, 1), .ok (.goto 1017, 3), .ok (.aload_n 1, 1), .ok (.aload_n 0, 1), .ok (.iload 4, 2), .ok (.iconst 1, 1), .ok (.iadd, 1), .ok (.iaload, 1), .ok (.aload_n 0, 1), .ok (.iload 4, 2), .ok (.iconst 2, 1), .ok (.iadd, 1), .ok (.iaload, 1), .ok (.aload_n 0, 1), .ok (.iload 4, 2), .ok (.iconst 3, 1), .ok (.iadd, 1), .ok (.iaload, 1), .ok (.invokevirtual 88, 3), .ok (.pop, 1), .ok (.aload_n 2, 1), .ok (.aload_n 0, 1), .ok (.iload 4, 2), .ok (.iconst 1, 1), .ok (.iadd, 1), .ok (.iaload, 1), .ok (.aload_n 0, 1), .ok (.iload 4, 2), .ok (.iconst 2, 1), .ok (.iadd, 1), .ok (.iaload, 1), .ok (.aload_n 0, 1), .ok (.iload 4, 2)] := wk_map (t := [(775, .iconst 3, 1), (776, .iadd, 1), (777, .iaload, 1), (778, .invokevirtual 83, 3), (781, .pop, 1), (782, .goto 1054, 3), (785, .aload_n 1, 1), (786, .aload_n 0, 1), (787, .iload 4, 2), (789, .iconst 1, 1), (790, .iadd, 1), (791, .iaload, 1), (792, .aload_n 0, 1), (793, .iload 4, 2), (795, .iconst 2, 1), (796, .iadd, 1), (797, .iaload, 1), (798, .invokevirtual 84, 3), (801, .pop, 1), (802, .aload_n 2, 1), (803, .aload_n 0, 1), (804, .iload 4, 2), (806, .iconst 1, 1), (807, .iadd, 1), (808, .iaload, 1), (809, .aload_n 0, 1), (810, .iload 4, 2), (812, .iconst 2, 1), (813, .iadd, 1), (814, .iaload, 1), (815, .invokevirtual 87, 3), (818, .pop, 1), (819, .goto 1017, 3), (822, .aload_n 1, 1), (823, .aload_n 0, 1), (824, .iload 4, 2), (826, .iconst 1, 1), (827, .iadd, 1), (828, .iaload, 1), (829, .aload_n 0, 1), (830, .iload 4, 2), (832, .iconst 2, 1), (833, .iadd, 1), (834, .iaload, 1), (835, .aload_n 0, 1), (836, .iload 4, 2), (838, .iconst 3, 1), (839, .iadd, 1), (840, .iaload, 1), (841, .invokevirtual 88, 3), (844, .pop, 1), (845, .aload_n 2, 1), (846, .aload_n 0, 1), (847, .iload 4, 2), (849, .iconst 1, 1), (850, .iadd, 1), (851, .iaload, 1), (852, .aload_n 0, 1), (853, .iload 4, 2), (855, .iconst 2, 1), (856, .iadd, 1), (857, .iaload, 1), (858, .aload_n 0, 1), (859, .iload 4, 2)]) (by decide +kernel)
theorem dL_law_775 : decode cL_law 775 = .ok (.iconst 3, 1) := row_of dLc_775 0 rfl rfl
theorem dL_law_776 : decode cL_law 776 = .ok (.iadd, 1) := row_of dLc_775 1 rfl rfl
theorem dL_law_777 : decode cL_law 777 = .ok (.iaload, 1) := row_of dLc_775 2 rfl rfl
theorem dL_law_778 : decode cL_law 778 = .ok (.invokevirtual 83, 3) := row_of dLc_775 3 rfl rfl
theorem dL_law_781 : decode cL_law 781 = .ok (.pop, 1) := row_of dLc_775 4 rfl rfl
theorem dL_law_782 : decode cL_law 782 = .ok (.goto 1054, 3) := row_of dLc_775 5 rfl rfl
theorem dL_law_785 : decode cL_law 785 = .ok (.aload_n 1, 1) := row_of dLc_775 6 rfl rfl
theorem dL_law_786 : decode cL_law 786 = .ok (.aload_n 0, 1) := row_of dLc_775 7 rfl rfl
theorem dL_law_787 : decode cL_law 787 = .ok (.iload 4, 2) := row_of dLc_775 8 rfl rfl
theorem dL_law_789 : decode cL_law 789 = .ok (.iconst 1, 1) := row_of dLc_775 9 rfl rfl
theorem dL_law_790 : decode cL_law 790 = .ok (.iadd, 1) := row_of dLc_775 10 rfl rfl
theorem dL_law_791 : decode cL_law 791 = .ok (.iaload, 1) := row_of dLc_775 11 rfl rfl
theorem dL_law_792 : decode cL_law 792 = .ok (.aload_n 0, 1) := row_of dLc_775 12 rfl rfl
theorem dL_law_793 : decode cL_law 793 = .ok (.iload 4, 2) := row_of dLc_775 13 rfl rfl
theorem dL_law_795 : decode cL_law 795 = .ok (.iconst 2, 1) := row_of dLc_775 14 rfl rfl
theorem dL_law_796 : decode cL_law 796 = .ok (.iadd, 1) := row_of dLc_775 15 rfl rfl
theorem dL_law_797 : decode cL_law 797 = .ok (.iaload, 1) := row_of dLc_775 16 rfl rfl
theorem dL_law_798 : decode cL_law 798 = .ok (.invokevirtual 84, 3) := row_of dLc_775 17 rfl rfl
theorem dL_law_801 : decode cL_law 801 = .ok (.pop, 1) := row_of dLc_775 18 rfl rfl
theorem dL_law_802 : decode cL_law 802 = .ok (.aload_n 2, 1) := row_of dLc_775 19 rfl rfl
theorem dL_law_803 : decode cL_law 803 = .ok (.aload_n 0, 1) := row_of dLc_775 20 rfl rfl
theorem dL_law_804 : decode cL_law 804 = .ok (.iload 4, 2) := row_of dLc_775 21 rfl rfl
theorem dL_law_806 : decode cL_law 806 = .ok (.iconst 1, 1) := row_of dLc_775 22 rfl rfl
theorem dL_law_807 : decode cL_law 807 = .ok (.iadd, 1) := row_of dLc_775 23 rfl rfl
theorem dL_law_808 : decode cL_law 808 = .ok (.iaload, 1) := row_of dLc_775 24 rfl rfl
theorem dL_law_809 : decode cL_law 809 = .ok (.aload_n 0, 1) := row_of dLc_775 25 rfl rfl
theorem dL_law_810 : decode cL_law 810 = .ok (.iload 4, 2) := row_of dLc_775 26 rfl rfl
theorem dL_law_812 : decode cL_law 812 = .ok (.iconst 2, 1) := row_of dLc_775 27 rfl rfl
theorem dL_law_813 : decode cL_law 813 = .ok (.iadd, 1) := row_of dLc_775 28 rfl rfl
theorem dL_law_814 : decode cL_law 814 = .ok (.iaload, 1) := row_of dLc_775 29 rfl rfl
theorem dL_law_815 : decode cL_law 815 = .ok (.invokevirtual 87, 3) := row_of dLc_775 30 rfl rfl
theorem dL_law_818 : decode cL_law 818 = .ok (.pop, 1) := row_of dLc_775 31 rfl rfl
theorem dL_law_819 : decode cL_law 819 = .ok (.goto 1017, 3) := row_of dLc_775 32 rfl rfl
theorem dL_law_822 : decode cL_law 822 = .ok (.aload_n 1, 1) := row_of dLc_775 33 rfl rfl
theorem dL_law_823 : decode cL_law 823 = .ok (.aload_n 0, 1) := row_of dLc_775 34 rfl rfl
theorem dL_law_824 : decode cL_law 824 = .ok (.iload 4, 2) := row_of dLc_775 35 rfl rfl
theorem dL_law_826 : decode cL_law 826 = .ok (.iconst 1, 1) := row_of dLc_775 36 rfl rfl
theorem dL_law_827 : decode cL_law 827 = .ok (.iadd, 1) := row_of dLc_775 37 rfl rfl
theorem dL_law_828 : decode cL_law 828 = .ok (.iaload, 1) := row_of dLc_775 38 rfl rfl
theorem dL_law_829 : decode cL_law 829 = .ok (.aload_n 0, 1) := row_of dLc_775 39 rfl rfl
theorem dL_law_830 : decode cL_law 830 = .ok (.iload 4, 2) := row_of dLc_775 40 rfl rfl
theorem dL_law_832 : decode cL_law 832 = .ok (.iconst 2, 1) := row_of dLc_775 41 rfl rfl
theorem dL_law_833 : decode cL_law 833 = .ok (.iadd, 1) := row_of dLc_775 42 rfl rfl
theorem dL_law_834 : decode cL_law 834 = .ok (.iaload, 1) := row_of dLc_775 43 rfl rfl
theorem dL_law_835 : decode cL_law 835 = .ok (.aload_n 0, 1) := row_of dLc_775 44 rfl rfl
theorem dL_law_836 : decode cL_law 836 = .ok (.iload 4, 2) := row_of dLc_775 45 rfl rfl
theorem dL_law_838 : decode cL_law 838 = .ok (.iconst 3, 1) := row_of dLc_775 46 rfl rfl
theorem dL_law_839 : decode cL_law 839 = .ok (.iadd, 1) := row_of dLc_775 47 rfl rfl
theorem dL_law_840 : decode cL_law 840 = .ok (.iaload, 1) := row_of dLc_775 48 rfl rfl
theorem dL_law_841 : decode cL_law 841 = .ok (.invokevirtual 88, 3) := row_of dLc_775 49 rfl rfl
theorem dL_law_844 : decode cL_law 844 = .ok (.pop, 1) := row_of dLc_775 50 rfl rfl
theorem dL_law_845 : decode cL_law 845 = .ok (.aload_n 2, 1) := row_of dLc_775 51 rfl rfl
theorem dL_law_846 : decode cL_law 846 = .ok (.aload_n 0, 1) := row_of dLc_775 52 rfl rfl
theorem dL_law_847 : decode cL_law 847 = .ok (.iload 4, 2) := row_of dLc_775 53 rfl rfl
theorem dL_law_849 : decode cL_law 849 = .ok (.iconst 1, 1) := row_of dLc_775 54 rfl rfl
theorem dL_law_850 : decode cL_law 850 = .ok (.iadd, 1) := row_of dLc_775 55 rfl rfl
theorem dL_law_851 : decode cL_law 851 = .ok (.iaload, 1) := row_of dLc_775 56 rfl rfl
theorem dL_law_852 : decode cL_law 852 = .ok (.aload_n 0, 1) := row_of dLc_775 57 rfl rfl
theorem dL_law_853 : decode cL_law 853 = .ok (.iload 4, 2) := row_of dLc_775 58 rfl rfl
theorem dL_law_855 : decode cL_law 855 = .ok (.iconst 2, 1) := row_of dLc_775 59 rfl rfl
theorem dL_law_856 : decode cL_law 856 = .ok (.iadd, 1) := row_of dLc_775 60 rfl rfl
theorem dL_law_857 : decode cL_law 857 = .ok (.iaload, 1) := row_of dLc_775 61 rfl rfl
theorem dL_law_858 : decode cL_law 858 = .ok (.aload_n 0, 1) := row_of dLc_775 62 rfl rfl
theorem dL_law_859 : decode cL_law 859 = .ok (.iload 4, 2) := row_of dLc_775 63 rfl rfl
theorem dLc_861 : List.map (decode cL_law) [861, 862, 863, 864, 867, 868, 871, 872, 873, 875, 876, 877, 878, 879, 881, 882, 883, 884, 885, 887, 888, 889, 890, 891, 893, 894, 895, 896, 897, 899, 900, 901, 902, 905, 906, 907, 908, 910, 911, 912, 913, 914, 916, 917, 918, 919, 920, 922, 923, 924, 925, 926, 928, 929, 930, 931, 932, 934, 935, 936, 937, 940, 941, 944] = [.ok (.iconst 3, 1), .ok (.iadd, 1), .ok (.iaload, 1), .ok (.invokevirtual 91, 3), .ok (.pop, 1), .ok (.goto 968, 3), .ok (.aload_n 1, 1), .ok (.aload_n 0, 1), .ok (.iload 4, 2), .ok (.iconst 1, 1), .ok (.iadd, 1), .ok (.iaload, 1), .ok (.aload_n 0, 1), .ok (.iload 4, 2), .ok (.iconst 2, 1), .ok (.iadd, 1), .ok (.iaload, 1), .ok (.aload_n 0, 1), .ok (.iload 4, 2), .ok (.iconst 3, 1), .ok (.iadd, 1), .ok (.iaload, 1), .ok (.aload_n 0, 1), .ok (.iload 4, 2), .ok (.iconst 4, 1), .ok (.iadd, 1), .ok (.iaload, 1), .ok (.aload_n 0, 1), .ok (.iload 4, 2), .ok (.iconst 5, 1), .ok (.iadd, 1), .ok (.iaload, 1), .ok (.invokevirtual 92, 3), .ok (.pop, 1), .ok (.aload_n 2, 1), .ok (.aload_n 0, 1), .ok (.iload 4, 2), .ok (.iconst 1, 1), .ok (.iadd, 1), .ok (.iaload, 1), .ok (.aload_n 0, 1), .ok (.iload 4, 2), .ok (.iconst 2, 1), .ok (.iadd, 1), .ok (.iaload, 1), .ok (.aload_n 0, 1), .ok (.iload 4, 2), .ok (.iconst 3, 1), .ok (.iadd, 1), .ok (.iaload, 1), .ok (.aload_n 0, 1), .ok (.iload 4, 2), .ok (.iconst 4, 1), .ok (.iadd, 1), .ok (.iaload, 1), .ok (.aload_n 0, 1), .ok (.iload 4, 2), .ok (.iconst 5, 1), .ok (.iadd, 1), .ok (.iaload, 1), .ok (.invokevirtual 95, 3), .ok (.pop, 1), .ok (.goto 895, 3), .ok (.aload_n 1, 1)] := wk_map (t := [(861, .iconst 3, 1), (862, .iadd, 1), (863, .iaload, 1), (864, .invokevirtual 91, 3), (867, .pop, 1), (868, .goto 968, 3), (871, .aload_n 1, 1), (872, .aload_n 0, 1), (873, .iload 4, 2), (875, .iconst 1, 1), (876, .iadd, 1), (877, .iaload, 1), (878, .aload_n 0, 1), (879, .iload 4, 2), (881, .iconst 2, 1), (882, .iadd, 1), (883, .iaload, 1), (884, .aload_n 0, 1), (885, .iload 4, 2), (887, .iconst 3, 1), (888, .iadd, 1), (889, .iaload, 1), (890, .aload_n 0, 1), (891, .iload 4, 2), (893, .iconst 4, 1), (894, .iadd, 1), (895, .iaload, 1), (896, .aload_n 0, 1), (897, .iload 4, 2), (899, .iconst 5, 1), (900, .iadd, 1), (901, .iaload, 1), (902, .invokevirtual 92, 3), (905, .pop, 1), (906, .aload_n 2, 1), (907, .aload_n 0, 1), (908, .iload 4, 2), (910, .iconst 1, 1), (911, .iadd, 1), (912, .iaload, 1), (913, .aload_n 0, 1), (914, .iload 4, 2), (916, .iconst 2, 1), (917, .iadd, 1), (918, .iaload, 1), (919, .aload_n 0, 1), (920, .iload 4, 2), (922, .iconst 3, 1), (923, .iadd, 1), (924, .iaload, 1), (925, .aload_n 0, 1), (926, .iload 4, 2), (928, .iconst 4, 1), (929, .iadd, 1), (930, .iaload, 1), (931, .aload_n 0, 1), (932, .iload 4, 2), (934, .iconst 5, 1), (935, .iadd, 1), (936, .iaload, 1), (937, .invokevirtual 95, 3), (940, .pop, 1), (941, .goto 895, 3), (944, .aload_n 1, 1)]) (by decide +kernel)
theorem dL_law_861 : decode cL_law 861 = .ok (.iconst 3, 1) := row_of dLc_861 0 rfl rfl
theorem dL_law_862 : decode cL_law 862 = .ok (.iadd, 1) := row_of dLc_861 1 rfl rfl
theorem dL_law_863 : decode cL_law 863 = .ok (.iaload, 1) := row_of dLc_861 2 rfl rfl
theorem dL_law_864 : decode cL_law 864 = .ok (.invokevirtual 91, 3) := row_of dLc_861 3 rfl rfl
theorem dL_law_867 : decode cL_law 867 = .ok (.pop, 1) := row_of dLc_861 4 rfl rfl
theorem dL_law_868 : decode cL_law 868 = .ok (.goto 968, 3) := row_of dLc_861 5 rfl rfl
theorem dL_law_871 : decode cL_law 871 = .ok (.aload_n 1, 1) := row_of dLc_861 6 rfl rfl
theorem dL_law_872 : decode cL_law 872 = .ok (.aload_n 0, 1) := row_of dLc_861 7 rfl rfl
theorem dL_law_873 : decode cL_law 873 = .ok (.iload 4, 2) := row_of dLc_861 8 rfl rfl
theorem dL_law_875 : decode cL_law 875 = .ok (.iconst 1, 1) := row_of dLc_861 9 rfl rfl
theorem dL_law_876 : decode cL_law 876 = .ok (.iadd, 1) := row_of dLc_861 10 rfl rfl
theorem dL_law_877 : decode cL_law 877 = .ok (.iaload, 1) := row_of dLc_861 11 rfl rfl
theorem dL_law_878 : decode cL_law 878 = .ok (.aload_n 0, 1) := row_of dLc_861 12 rfl rfl
theorem dL_law_879 : decode cL_law 879 = .ok (.iload 4, 2) := row_of dLc_861 13 rfl rfl
theorem dL_law_881 : decode cL_law 881 = .ok (.iconst 2, 1) := row_of dLc_861 14 rfl rfl
theorem dL_law_882 : decode cL_law 882 = .ok (.iadd, 1) := row_of dLc_861 15 rfl rfl
theorem dL_law_883 : decode cL_law 883 = .ok (.iaload, 1) := row_of dLc_861 16 rfl rfl
theorem dL_law_884 : decode cL_law 884 = .ok (.aload_n 0, 1) := row_of dLc_861 17 rfl rfl
theorem dL_law_885 : decode cL_law 885 = .ok (.iload 4, 2) := row_of dLc_861 18 rfl rfl
theorem dL_law_887 : decode cL_law 887 = .ok (.iconst 3, 1) := row_of dLc_861 19 rfl rfl
theorem dL_law_888 : decode cL_law 888 = .ok (.iadd, 1) := row_of dLc_861 20 rfl rfl
theorem dL_law_889 : decode cL_law 889 = .ok (.iaload, 1) := row_of dLc_861 21 rfl rfl
theorem dL_law_890 : decode cL_law 890 = .ok (.aload_n 0, 1) := row_of dLc_861 22 rfl rfl
theorem dL_law_891 : decode cL_law 891 = .ok (.iload 4, 2) := row_of dLc_861 23 rfl rfl
theorem dL_law_893 : decode cL_law 893 = .ok (.iconst 4, 1) := row_of dLc_861 24 rfl rfl
theorem dL_law_894 : decode cL_law 894 = .ok (.iadd, 1) := row_of dLc_861 25 rfl rfl
theorem dL_law_895 : decode cL_law 895 = .ok (.iaload, 1) := row_of dLc_861 26 rfl rfl
theorem dL_law_896 : decode cL_law 896 = .ok (.aload_n 0, 1) := row_of dLc_861 27 rfl rfl
theorem dL_law_897 : decode cL_law 897 = .ok (.iload 4, 2) := row_of dLc_861 28 rfl rfl
theorem dL_law_899 : decode cL_law 899 = .ok (.iconst 5, 1) := row_of dLc_861 29 rfl rfl
theorem dL_law_900 : decode cL_law 900 = .ok (.iadd, 1) := row_of dLc_861 30 rfl rfl
theorem dL_law_901 : decode cL_law 901 = .ok (.iaload, 1) := row_of dLc_861 31 rfl rfl
theorem dL_law_902 : decode cL_law 902 = .ok (.invokevirtual 92, 3) := row_of dLc_861 32 rfl rfl
theorem dL_law_905 : decode cL_law 905 = .ok (.pop, 1) := row_of dLc_861 33 rfl rfl
theorem dL_law_906 : decode cL_law 906 = .ok (.aload_n 2, 1) := row_of dLc_861 34 rfl rfl
theorem dL_law_907 : decode cL_law 907 = .ok (.aload_n 0, 1) := row_of dLc_861 35 rfl rfl
theorem dL_law_908 : decode cL_law 908 = .ok (.iload 4, 2) := row_of dLc_861 36 rfl rfl
theorem dL_law_910 : decode cL_law 910 = .ok (.iconst 1, 1) := row_of dLc_861 37 rfl rfl
theorem dL_law_911 : decode cL_law 911 = .ok (.iadd, 1) := row_of dLc_861 38 rfl rfl
theorem dL_law_912 : decode cL_law 912 = .ok (.iaload, 1) := row_of dLc_861 39 rfl rfl
theorem dL_law_913 : decode cL_law 913 = .ok (.aload_n 0, 1) := row_of dLc_861 40 rfl rfl
theorem dL_law_914 : decode cL_law 914 = .ok (.iload 4, 2) := row_of dLc_861 41 rfl rfl
theorem dL_law_916 : decode cL_law 916 = .ok (.iconst 2, 1) := row_of dLc_861 42 rfl rfl
theorem dL_law_917 : decode cL_law 917 = .ok (.iadd, 1) := row_of dLc_861 43 rfl rfl
theorem dL_law_918 : decode cL_law 918 = .ok (.iaload, 1) := row_of dLc_861 44 rfl rfl
theorem dL_law_919 : decode cL_law 919 = .ok (.aload_n 0, 1) := row_of dLc_861 45 rfl rfl
theorem dL_law_920 : decode cL_law 920 = .ok (.iload 4, 2) := row_of dLc_861 46 rfl rfl
theorem dL_law_922 : decode cL_law 922 = .ok (.iconst 3, 1) := row_of dLc_861 47 rfl rfl
theorem dL_law_923 : decode cL_law 923 = .ok (.iadd, 1) := row_of dLc_861 48 rfl rfl
theorem dL_law_924 : decode cL_law 924 = .ok (.iaload, 1) := row_of dLc_861 49 rfl rfl
theorem dL_law_925 : decode cL_law 925 = .ok (.aload_n 0, 1) := row_of dLc_861 50 rfl rfl
theorem dL_law_926 : decode cL_law 926 = .ok (.iload 4, 2) := row_of dLc_861 51 rfl rfl
theorem dL_law_928 : decode cL_law 928 = .ok (.iconst 4, 1) := row_of dLc_861 52 rfl rfl
theorem dL_law_929 : decode cL_law 929 = .ok (.iadd, 1) := row_of dLc_861 53 rfl rfl
theorem dL_law_930 : decode cL_law 930 = .ok (.iaload, 1) := row_of dLc_861 54 rfl rfl
theorem dL_law_931 : decode cL_law 931 = .ok (.aload_n 0, 1) := row_of dLc_861 55 rfl rfl
theorem dL_law_932 : decode cL_law 932 = .ok (.iload 4, 2) := row_of dLc_861 56 rfl rfl
theorem dL_law_934 : decode cL_law 934 = .ok (.iconst 5, 1) := row_of dLc_861 57 rfl rfl
theorem dL_law_935 : decode cL_law 935 = .ok (.iadd, 1) := row_of dLc_861 58 rfl rfl
theorem dL_law_936 : decode cL_law 936 = .ok (.iaload, 1) := row_of dLc_861 59 rfl rfl
theorem dL_law_937 : decode cL_law 937 = .ok (.invokevirtual 95, 3) := row_of dLc_861 60 rfl rfl
theorem dL_law_940 : decode cL_law 940 = .ok (.pop, 1) := row_of dLc_861 61 rfl rfl
theorem dL_law_941 : decode cL_law 941 = .ok (.goto 895, 3) := row_of dLc_861 62 rfl rfl
theorem dL_law_944 : decode cL_law 944 = .ok (.aload_n 1, 1) := row_of dLc_861 63 rfl rfl
theorem dLc_945 : List.map (decode cL_law) [945, 946, 948, 949, 950, 951, 952, 954, 955, 956, 957, 958, 960, 961, 962, 963, 964, 966, 967, 968, 969, 972, 973, 974, 975, 977, 978, 979, 980, 981, 983, 984, 985, 986, 987, 989, 990, 991, 992, 993, 995, 996, 997, 998, 1001, 1002, 1005, 1006, 1007, 1009, 1010, 1011, 1012, 1013, 1015, 1016, 1017, 1018, 1019, 1021, 1022, 1023, 1024, 1027] = [.ok (.aload_n 0, 1), .ok (.iload 4, 2), .ok (.iconst 1, 1), .ok (.iadd, 1), .ok (.iaload, 1), .ok (.aload_n 0, 1), .ok (.iload 4, 2), .ok (.iconst 2, 1), .ok (.iadd, 1), .ok (.iaload, 1), .ok (.aload_n 0, 1), .ok (.iload 4, 2), .ok (.iconst 3, 1), .ok (.iadd, 1), .ok (.iaload, 1), .ok (.aload_n 0, 1), .ok (.iload 4, 2), .ok (.iconst 4, 1), .ok (.iadd, 1), .ok (.iaload, 1), .ok (.invokevirtual 96, 3), .ok (.pop, 1), .ok (.aload_n 2, 1), .ok (.aload_n 0, 1), .ok (.iload 4, 2), .ok (.iconst 1, 1), .ok (.iadd, 1), .ok (.iaload, 1), .ok (.aload_n 0, 1), .ok (.iload 4, 2), .ok (.iconst 2, 1), .ok (.iadd, 1), .ok (.iaload, 1), .ok (.aload_n 0, 1), .ok (.iload 4, 2), .ok (.iconst 3, 1), .ok (.iadd, 1), .ok (.iaload, 1), .ok (.aload_n 0, 1), .ok (.iload 4, 2), .ok (.iconst 4, 1), .ok (.iadd, 1), .ok (.iaload, 1), .ok (.invokevirtual 99, 3), .ok (.pop, 1), .ok (.goto 834, 3), .ok (.aload_n 1, 1), .ok (.aload_n 0, 1), .ok (.iload 4, 2), .ok (.iconst 1, 1), .ok (.iadd, 1), .ok (.iaload, 1), .ok (.aload_n 0, 1), .ok (.iload 4, 2), .ok (.iconst 2, 1), .ok (.iadd, 1), .ok (.iaload, 1), .ok (.aload_n 0, 1), .ok (.iload 4, 2), .ok (.iconst 3, 1), .ok (.iadd, 1), .ok (.iaload, 1), .ok (.invokevirtual 100, 3), .ok (.pop, 1)] := wk_map (t := [(945, .aload_n 0, 1), (946, .iload 4, 2), (948, .iconst 1, 1), (949, .iadd, 1), (950, .iaload, 1), (951, .aload_n 0, 1), (952, .iload 4, 2), (954, .iconst 2, 1), (955, .iadd, 1), (956, .iaload, 1), (957, .aload_n 0, 1), (958, .iload 4, 2), (960, .iconst 3, 1), (961, .iadd, 1), (962, .iaload, 1), (963, .aload_n 0, 1), (964, .iload 4, 2), (966, .iconst 4, 1), (967, .iadd, 1), (968, .iaload, 1), (969, .invokevirtual 96, 3), (972, .pop, 1), (973, .aload_n 2, 1), (974, .aload_n 0, 1), (975, .iload 4, 2), (977, .iconst 1, 1), (978, .iadd, 1), (979, .iaload, 1), (980, .aload_n 0, 1), (981, .iload 4, 2), (983, .iconst 2, 1), (984, .iadd, 1), (985, .iaload, 1), (986, .aload_n 0, 1), (987, .iload 4, 2), (989, .iconst 3, 1), (990, .iadd, 1), (991, .iaload, 1), (992, .aload_n 0, 1), (993, .iload 4, 2), (995, .iconst 4, 1), (996, .iadd, 1), (997, .iaload, 1), (998, .invokevirtual 99, 3), (1001, .pop, 1), (1002, .goto 834, 3), (1005, .aload_n 1, 1), (1006, .aload_n 0, 1), (1007, .iload 4, 2), (1009, .iconst 1, 1), (1010, .iadd, 1), (1011, .iaload, 1), (1012, .aload_n 0, 1), (1013, .iload 4, 2), (1015, .iconst 2, 1), (1016, .iadd, 1), (1017, .iaload, 1), (1018, .aload_n 0, 1), (1019, .iload 4, 2), (1021, .iconst 3, 1), (1022, .iadd, 1), (1023, .iaload, 1), (1024, .invokevirtual 100, 3), (1027, .pop, 1)]) (by decide +kernel)
theorem dL_law_945 : decode cL_law 945 = .ok (.aload_n 0, 1) := row_of dLc_945 0 rfl rfl
theorem dL_law_946 : decode cL_law 946 = .ok (.iload 4, 2) := row_of dLc_945 1 rfl rfl
theorem dL_law_948 : decode cL_law 948 = .ok (.iconst 1, 1) := row_of dLc_945 2 rfl rfl
theorem dL_law_949 : decode cL_law 949 = .ok (.iadd, 1) := row_of dLc_945 3 rfl rfl
theorem dL_law_950 : decode cL_law 950 = .ok (.iaload, 1) := row_of dLc_945 4 rfl rfl
theorem dL_law_951 : decode cL_law 951 = .ok (.aload_n 0, 1) := row_of dLc_945 5 rfl rfl
theorem dL_law_952 : decode cL_law 952 = .ok (.iload 4, 2) := row_of dLc_945 6 rfl rfl
theorem dL_law_954 : decode cL_law 954 = .ok (.iconst 2, 1) := row_of dLc_945 7 rfl rfl
theorem dL_law_955 : decode cL_law 955 = .ok (.iadd, 1) := row_of dLc_945 8 rfl rfl
theorem dL_law_956 : decode cL_law 956 = .ok (.iaload, 1) := row_of dLc_945 9 rfl rfl
theorem dL_law_957 : decode cL_law 957 = .ok (.aload_n 0, 1) := row_of dLc_945 10 rfl rfl
theorem dL_law_958 : decode cL_law 958 = .ok (.iload 4, 2) := row_of dLc_945 11 rfl rfl
theorem dL_law_960 : decode cL_law 960 = .ok (.iconst 3, 1) := row_of dLc_945 12 rfl rfl
theorem dL_law_961 : decode cL_law 961 = .ok (.iadd, 1) := row_of dLc_945 13 rfl rfl
theorem dL_law_962 : decode cL_law 962 = .ok (.iaload, 1) := row_of dLc_945 14 rfl rfl
theorem dL_law_963 : decode cL_law 963 = .ok (.aload_n 0, 1) := row_of dLc_945 15 rfl rfl
theorem dL_law_964 : decode cL_law 964 = .ok (.iload 4, 2) := row_of dLc_945 16 rfl rfl
theorem dL_law_966 : decode cL_law 966 = .ok (.iconst 4, 1) := row_of dLc_945 17 rfl rfl
theorem dL_law_967 : decode cL_law 967 = .ok (.iadd, 1) := row_of dLc_945 18 rfl rfl
theorem dL_law_968 : decode cL_law 968 = .ok (.iaload, 1) := row_of dLc_945 19 rfl rfl
theorem dL_law_969 : decode cL_law 969 = .ok (.invokevirtual 96, 3) := row_of dLc_945 20 rfl rfl
theorem dL_law_972 : decode cL_law 972 = .ok (.pop, 1) := row_of dLc_945 21 rfl rfl
theorem dL_law_973 : decode cL_law 973 = .ok (.aload_n 2, 1) := row_of dLc_945 22 rfl rfl
theorem dL_law_974 : decode cL_law 974 = .ok (.aload_n 0, 1) := row_of dLc_945 23 rfl rfl
theorem dL_law_975 : decode cL_law 975 = .ok (.iload 4, 2) := row_of dLc_945 24 rfl rfl
theorem dL_law_977 : decode cL_law 977 = .ok (.iconst 1, 1) := row_of dLc_945 25 rfl rfl
theorem dL_law_978 : decode cL_law 978 = .ok (.iadd, 1) := row_of dLc_945 26 rfl rfl
theorem dL_law_979 : decode cL_law 979 = .ok (.iaload, 1) := row_of dLc_945 27 rfl rfl
theorem dL_law_980 : decode cL_law 980 = .ok (.aload_n 0, 1) := row_of dLc_945 28 rfl rfl
theorem dL_law_981 : decode cL_law 981 = .ok (.iload 4, 2) := row_of dLc_945 29 rfl rfl
theorem dL_law_983 : decode cL_law 983 = .ok (.iconst 2, 1) := row_of dLc_945 30 rfl rfl
theorem dL_law_984 : decode cL_law 984 = .ok (.iadd, 1) := row_of dLc_945 31 rfl rfl
theorem dL_law_985 : decode cL_law 985 = .ok (.iaload, 1) := row_of dLc_945 32 rfl rfl
theorem dL_law_986 : decode cL_law 986 = .ok (.aload_n 0, 1) := row_of dLc_945 33 rfl rfl
theorem dL_law_987 : decode cL_law 987 = .ok (.iload 4, 2) := row_of dLc_945 34 rfl rfl
theorem dL_law_989 : decode cL_law 989 = .ok (.iconst 3, 1) := row_of dLc_945 35 rfl rfl
theorem dL_law_990 : decode cL_law 990 = .ok (.iadd, 1) := row_of dLc_945 36 rfl rfl
theorem dL_law_991 : decode cL_law 991 = .ok (.iaload, 1) := row_of dLc_945 37 rfl rfl
theorem dL_law_992 : decode cL_law 992 = .ok (.aload_n 0, 1) := row_of dLc_945 38 rfl rfl
theorem dL_law_993 : decode cL_law 993 = .ok (.iload 4, 2) := row_of dLc_945 39 rfl rfl
theorem dL_law_995 : decode cL_law 995 = .ok (.iconst 4, 1) := row_of dLc_945 40 rfl rfl
theorem dL_law_996 : decode cL_law 996 = .ok (.iadd, 1) := row_of dLc_945 41 rfl rfl
theorem dL_law_997 : decode cL_law 997 = .ok (.iaload, 1) := row_of dLc_945 42 rfl rfl
theorem dL_law_998 : decode cL_law 998 = .ok (.invokevirtual 99, 3) := row_of dLc_945 43 rfl rfl
theorem dL_law_1001 : decode cL_law 1001 = .ok (.pop, 1) := row_of dLc_945 44 rfl rfl
theorem dL_law_1002 : decode cL_law 1002 = .ok (.goto 834, 3) := row_of dLc_945 45 rfl rfl
theorem dL_law_1005 : decode cL_law 1005 = .ok (.aload_n 1, 1) := row_of dLc_945 46 rfl rfl
theorem dL_law_1006 : decode cL_law 1006 = .ok (.aload_n 0, 1) := row_of dLc_945 47 rfl rfl
theorem dL_law_1007 : decode cL_law 1007 = .ok (.iload 4, 2) := row_of dLc_945 48 rfl rfl
theorem dL_law_1009 : decode cL_law 1009 = .ok (.iconst 1, 1) := row_of dLc_945 49 rfl rfl
theorem dL_law_1010 : decode cL_law 1010 = .ok (.iadd, 1) := row_of dLc_945 50 rfl rfl
theorem dL_law_1011 : decode cL_law 1011 = .ok (.iaload, 1) := row_of dLc_945 51 rfl rfl
theorem dL_law_1012 : decode cL_law 1012 = .ok (.aload_n 0, 1) := row_of dLc_945 52 rfl rfl
theorem dL_law_1013 : decode cL_law 1013 = .ok (.iload 4, 2) := row_of dLc_945 53 rfl rfl
theorem dL_law_1015 : decode cL_law 1015 = .ok (.iconst 2, 1) := row_of dLc_945 54 rfl rfl
theorem dL_law_1016 : decode cL_law 1016 = .ok (.iadd, 1) := row_of dLc_945 55 rfl rfl
theorem dL_law_1017 : decode cL_law 1017 = .ok (.iaload, 1) := row_of dLc_945 56 rfl rfl
theorem dL_law_1018 : decode cL_law 1018 = .ok (.aload_n 0, 1) := row_of dLc_945 57 rfl rfl
theorem dL_law_1019 : decode cL_law 1019 = .ok (.iload 4, 2) := row_of dLc_945 58 rfl rfl
theorem dL_law_1021 : decode cL_law 1021 = .ok (.iconst 3, 1) := row_of dLc_945 59 rfl rfl
theorem dL_law_1022 : decode cL_law 1022 = .ok (.iadd, 1) := row_of dLc_945 60 rfl rfl
theorem dL_law_1023 : decode cL_law 1023 = .ok (.iaload, 1) := row_of dLc_945 61 rfl rfl
theorem dL_law_1024 : decode cL_law 1024 = .ok (.invokevirtual 100, 3) := row_of dLc_945 62 rfl rfl
theorem dL_law_1027 : decode cL_law 1027 = .ok (.pop, 1) := row_of dLc_945 63 rfl rfl
theorem dLc_1028 : List.map (decode cL_law) [1028, 1029, 1030, 1032, 1033, 1034, 1035, 1036, 1038, 1039, 1040, 1041, 1042, 1044, 1045, 1046, 1047, 1050, 1051, 1054, 1055, 1056, 1058, 1059, 1060, 1061, 1062, 1064, 1065, 1066, 1067, 1068, 1070, 1071, 1072, 1073, 1076, 1077, 1078, 1079, 1081, 1082, 1083, 1084, 1085, 1087, 1088, 1089, 1090, 1091, 1093, 1094, 1095, 1096, 1099, 1100, 1103, 1104, 1105, 1107, 1108, 1109, 1110, 1111] = [.ok (.aload_n 2, 1), .ok (.aload_n 0, 1), .ok (.iload 4, 2), .ok (.iconst 1, 1), .ok (.iadd, 1), .ok (.iaload, 1), .ok (.aload_n 0, 1), .ok (.iload 4, 2), .ok (.iconst 2, 1), .ok (.iadd, 1), .ok (.iaload, 1), .ok (.aload_n 0, 1), .ok (.iload 4, 2), .ok (.iconst 3, 1), .ok (.iadd, 1), .ok (.iaload, 1), .ok (.invokevirtual 103, 3), .ok (.pop, 1), .ok (.goto 785, 3), .ok (.aload_n 1, 1), .ok (.aload_n 0, 1), .ok (.iload 4, 2), .ok (.iconst 1, 1), .ok (.iadd, 1), .ok (.iaload, 1), .ok (.aload_n 0, 1), .ok (.iload 4, 2), .ok (.iconst 2, 1), .ok (.iadd, 1), .ok (.iaload, 1), .ok (.aload_n 0, 1), .ok (.iload 4, 2), .ok (.iconst 3, 1), .ok (.iadd, 1), .ok (.iaload, 1), .ok (.invokevirtual 104, 3), .ok (.pop, 1), .ok (.aload_n 2, 1), .ok (.aload_n 0, 1), .ok (.iload 4, 2), .ok (.iconst 1, 1), .ok (.iadd, 1), .ok (.iaload, 1), .ok (.aload_n 0, 1), .ok (.iload 4, 2), .ok (.iconst 2, 1), .ok (.iadd, 1), .ok (.iaload, 1), .ok (.aload_n 0, 1), .ok (.iload 4, 2), .ok (.iconst 3, 1), .ok (.iadd, 1), .ok (.iaload, 1), .ok (.invokevirtual 107, 3), .ok (.pop, 1), .ok (.goto 736, 3), .ok (.aload_n 1, 1), .ok (.aload_n 0, 1), .ok (.iload 4, 2), .ok (.iconst 1, 1), .ok (.iadd, 1), .ok (.iaload, 1), .ok (.aload_n 0, 1), .ok (.iload 4, 2)] := wk_map (t := [(1028, .aload_n 2, 1), (1029, .aload_n 0, 1), (1030, .iload 4, 2), (1032, .iconst 1, 1), (1033, .iadd, 1), (1034, .iaload, 1), (1035, .aload_n 0, 1), (1036, .iload 4, 2), (1038, .iconst 2, 1), (1039, .iadd, 1), (1040, .iaload, 1), (1041, .aload_n 0, 1), (1042, .iload 4, 2), (1044, .iconst 3, 1), (1045, .iadd, 1), (1046, .iaload, 1), (1047, .invokevirtual 103, 3), (1050, .pop, 1), (1051, .goto 785, 3), (1054, .aload_n 1, 1), (1055, .aload_n 0, 1), (1056, .iload 4, 2), (1058, .iconst 1, 1), (1059, .iadd, 1), (1060, .iaload, 1), (1061, .aload_n 0, 1), (1062, .iload 4, 2), (1064, .iconst 2, 1), (1065, .iadd, 1), (1066, .iaload, 1), (1067, .aload_n 0, 1), (1068, .iload 4, 2), (1070, .iconst 3, 1), (1071, .iadd, 1), (1072, .iaload, 1), (1073, .invokevirtual 104, 3), (1076, .pop, 1), (1077, .aload_n 2, 1), (1078, .aload_n 0, 1), (1079, .iload 4, 2), (1081, .iconst 1, 1), (1082, .iadd, 1), (1083, .iaload, 1), (1084, .aload_n 0, 1), (1085, .iload 4, 2), (1087, .iconst 2, 1), (1088, .iadd, 1), (1089, .iaload, 1), (1090, .aload_n 0, 1), (1091, .iload 4, 2), (1093, .iconst 3, 1), (1094, .iadd, 1), (1095, .iaload, 1), (1096, .invokevirtual 107, 3), (1099, .pop, 1), (1100, .goto 736, 3), (1103, .aload_n 1, 1), (1104, .aload_n 0, 1), (1105, .iload 4, 2), (1107, .iconst 1, 1), (1108, .iadd, 1), (1109, .iaload, 1), (1110, .aload_n 0, 1), (1111, .iload 4, 2)]) (by decide +kernel)
theorem dL_law_1028 : decode cL_law 1028 = .ok (.aload_n 2, 1) := row_of dLc_1028 0 rfl rfl
theorem dL_law_1029 : decode cL_law 1029 = .ok (.aload_n 0, 1) := row_of dLc_1028 1 rfl rfl
theorem dL_law_1030 : decode cL_law 1030 = .ok (.iload 4, 2) := row_of dLc_1028 2 rfl rfl
theorem dL_law_1032 : decode cL_law 1032 = .ok (.iconst 1, 1) := row_of dLc_1028 3 rfl rfl
theorem dL_law_1033 : decode cL_law 1033 = .ok (.iadd, 1) := row_of dLc_1028 4 rfl rfl
theorem dL_law_1034 : decode cL_law 1034 = .ok (.iaload, 1) := row_of dLc_1028 5 rfl rfl
theorem dL_law_1035 : decode cL_law 1035 = .ok (.aload_n 0, 1) := row_of dLc_1028 6 rfl rfl
theorem dL_law_1036 : decode cL_law 1036 = .ok (.iload 4, 2) := row_of dLc_1028 7 rfl rfl
theorem dL_law_1038 : decode cL_law 1038 = .ok (.iconst 2, 1) := row_of dLc_1028 8 rfl rfl
theorem dL_law_1039 : decode cL_law 1039 = .ok (.iadd, 1) := row_of dLc_1028 9 rfl rfl
theorem dL_law_1040 : decode cL_law 1040 = .ok (.iaload, 1) := row_of dLc_1028 10 rfl rfl
theorem dL_law_1041 : decode cL_law 1041 = .ok (.aload_n 0, 1) := row_of dLc_1028 11 rfl rfl
theorem dL_law_1042 : decode cL_law 1042 = .ok (.iload 4, 2) := row_of dLc_1028 12 rfl rfl
theorem dL_law_1044 : decode cL_law 1044 = .ok (.iconst 3, 1) := row_of dLc_1028 13 rfl rfl
theorem dL_law_1045 : decode cL_law 1045 = .ok (.iadd, 1) := row_of dLc_1028 14 rfl rfl
theorem dL_law_1046 : decode cL_law 1046 = .ok (.iaload, 1) := row_of dLc_1028 15 rfl rfl
theorem dL_law_1047 : decode cL_law 1047 = .ok (.invokevirtual 103, 3) := row_of dLc_1028 16 rfl rfl
theorem dL_law_1050 : decode cL_law 1050 = .ok (.pop, 1) := row_of dLc_1028 17 rfl rfl
theorem dL_law_1051 : decode cL_law 1051 = .ok (.goto 785, 3) := row_of dLc_1028 18 rfl rfl
theorem dL_law_1054 : decode cL_law 1054 = .ok (.aload_n 1, 1) := row_of dLc_1028 19 rfl rfl
theorem dL_law_1055 : decode cL_law 1055 = .ok (.aload_n 0, 1) := row_of dLc_1028 20 rfl rfl
theorem dL_law_1056 : decode cL_law 1056 = .ok (.iload 4, 2) := row_of dLc_1028 21 rfl rfl
theorem dL_law_1058 : decode cL_law 1058 = .ok (.iconst 1, 1) := row_of dLc_1028 22 rfl rfl
theorem dL_law_1059 : decode cL_law 1059 = .ok (.iadd, 1) := row_of dLc_1028 23 rfl rfl
theorem dL_law_1060 : decode cL_law 1060 = .ok (.iaload, 1) := row_of dLc_1028 24 rfl rfl
theorem dL_law_1061 : decode cL_law 1061 = .ok (.aload_n 0, 1) := row_of dLc_1028 25 rfl rfl
theorem dL_law_1062 : decode cL_law 1062 = .ok (.iload 4, 2) := row_of dLc_1028 26 rfl rfl
theorem dL_law_1064 : decode cL_law 1064 = .ok (.iconst 2, 1) := row_of dLc_1028 27 rfl rfl
theorem dL_law_1065 : decode cL_law 1065 = .ok (.iadd, 1) := row_of dLc_1028 28 rfl rfl
theorem dL_law_1066 : decode cL_law 1066 = .ok (.iaload, 1) := row_of dLc_1028 29 rfl rfl
theorem dL_law_1067 : decode cL_law 1067 = .ok (.aload_n 0, 1) := row_of dLc_1028 30 rfl rfl
theorem dL_law_1068 : decode cL_law 1068 = .ok (.iload 4, 2) := row_of dLc_1028 31 rfl rfl
theorem dL_law_1070 : decode cL_law 1070 = .ok (.iconst 3, 1) := row_of dLc_1028 32 rfl rfl
theorem dL_law_1071 : decode cL_law 1071 = .ok (.iadd, 1) := row_of dLc_1028 33 rfl rfl
theorem dL_law_1072 : decode cL_law 1072 = .ok (.iaload, 1) := row_of dLc_1028 34 rfl rfl
theorem dL_law_1073 : decode cL_law 1073 = .ok (.invokevirtual 104, 3) := row_of dLc_1028 35 rfl rfl
theorem dL_law_1076 : decode cL_law 1076 = .ok (.pop, 1) := row_of dLc_1028 36 rfl rfl
theorem dL_law_1077 : decode cL_law 1077 = .ok (.aload_n 2, 1) := row_of dLc_1028 37 rfl rfl
theorem dL_law_1078 : decode cL_law 1078 = .ok (.aload_n 0, 1) := row_of dLc_1028 38 rfl rfl
theorem dL_law_1079 : decode cL_law 1079 = .ok (.iload 4, 2) := row_of dLc_1028 39 rfl rfl
theorem dL_law_1081 : decode cL_law 1081 = .ok (.iconst 1, 1) := row_of dLc_1028 40 rfl rfl
theorem dL_law_1082 : decode cL_law 1082 = .ok (.iadd, 1) := row_of dLc_1028 41 rfl rfl
theorem dL_law_1083 : decode cL_law 1083 = .ok (.iaload, 1) := row_of dLc_1028 42 rfl rfl
theorem dL_law_1084 : decode cL_law 1084 = .ok (.aload_n 0, 1) := row_of dLc_1028 43 rfl rfl
theorem dL_law_1085 : decode cL_law 1085 = .ok (.iload 4, 2) := row_of dLc_1028 44 rfl rfl
theorem dL_law_1087 : decode cL_law 1087 = .ok (.iconst 2, 1) := row_of dLc_1028 45 rfl rfl
theorem dL_law_1088 : decode cL_law 1088 = .ok (.iadd, 1) := row_of dLc_1028 46 rfl rfl
theorem dL_law_1089 : decode cL_law 1089 = .ok (.iaload, 1) := row_of dLc_1028 47 rfl rfl
theorem dL_law_1090 : decode cL_law 1090 = .ok (.aload_n 0, 1) := row_of dLc_1028 48 rfl rfl
theorem dL_law_1091 : decode cL_law 1091 = .ok (.iload 4, 2) := row_of dLc_1028 49 rfl rfl
theorem dL_law_1093 : decode cL_law 1093 = .ok (.iconst 3, 1) := row_of dLc_1028 50 rfl rfl
theorem dL_law_1094 : decode cL_law 1094 = .ok (.iadd, 1) := row_of dLc_1028 51 rfl rfl
theorem dL_law_1095 : decode cL_law 1095 = .ok (.iaload, 1) := row_of dLc_1028 52 rfl rfl
theorem dL_law_1096 : decode cL_law 1096 = .ok (.invokevirtual 107, 3) := row_of dLc_1028 53 rfl rfl
theorem dL_law_1099 : decode cL_law 1099 = .ok (.pop, 1) := row_of dLc_1028 54 rfl rfl
theorem dL_law_1100 : decode cL_law 1100 = .ok (.goto 736, 3) := row_of dLc_1028 55 rfl rfl
theorem dL_law_1103 : decode cL_law 1103 = .ok (.aload_n 1, 1) := row_of dLc_1028 56 rfl rfl
theorem dL_law_1104 : decode cL_law 1104 = .ok (.aload_n 0, 1) := row_of dLc_1028 57 rfl rfl
theorem dL_law_1105 : decode cL_law 1105 = .ok (.iload 4, 2) := row_of dLc_1028 58 rfl rfl
theorem dL_law_1107 : decode cL_law 1107 = .ok (.iconst 1, 1) := row_of dLc_1028 59 rfl rfl
theorem dL_law_1108 : decode cL_law 1108 = .ok (.iadd, 1) := row_of dLc_1028 60 rfl rfl
theorem dL_law_1109 : decode cL_law 1109 = .ok (.iaload, 1) := row_of dLc_1028 61 rfl rfl
theorem dL_law_1110 : decode cL_law 1110 = .ok (.aload_n 0, 1) := row_of dLc_1028 62 rfl rfl
theorem dL_law_1111 : decode cL_law 1111 = .ok (.iload 4, 2) := row_of dLc_1028 63 rfl rfl
theorem dLc_1113 : List.map (decode cL_law) [1113, 1114, 1115, 1116, 1117, 1119, 1120, 1121, 1122, 1123, 1125, 1126, 1127, 1128, 1131, 1132, 1133, 1134, 1136, 1137, 1138, 1139, 1140, 1142, 1143, 1144, 1145, 1146, 1148, 1149, 1150, 1151, 1152, 1154, 1155, 1156, 1157, 1160, 1161, 1164, 1165, 1166, 1168, 1169, 1170, 1171, 1174, 1175, 1176, 1177, 1179, 1180, 1181, 1182, 1185, 1186, 1189, 1190, 1191, 1193, 1194, 1195, 1196, 1197] = [.ok (.iconst 2, 1), .ok (.iadd, 1), .ok (.iaload, 1), .ok (.aload_n 0, 1), .ok (.iload 4, 2), .ok (.iconst 3, 1), .ok (.iadd, 1), .ok (.iaload, 1), .ok (.aload_n 0, 1), .ok (.iload 4, 2), .ok (.iconst 4, 1), .ok (.iadd, 1), .ok (.iaload, 1), .ok (.invokevirtual 108, 3), .ok (.pop, 1), .ok (.aload_n 2, 1), .ok (.aload_n 0, 1), .ok (.iload 4, 2), .ok (.iconst 1, 1), .ok (.iadd, 1), .ok (.iaload, 1), .ok (.aload_n 0, 1), .ok (.iload 4, 2), .ok (.iconst 2, 1), .ok (.iadd, 1), .ok (.iaload, 1), .ok (.aload_n 0, 1), .ok (.iload 4, 2), .ok (.iconst 3, 1), .ok (.iadd, 1), .ok (.iaload, 1), .ok (.aload_n 0, 1), .ok (.iload 4, 2), .ok (.iconst 4, 1), .ok (.iadd, 1), .ok (.iaload, 1), .ok (.invokevirtual 111, 3), .ok (.pop, 1), .ok (.goto 675, 3), .ok (.aload_n 1, 1), .ok (.aload_n 0, 1), .ok (.iload 4, 2), .ok (.iconst 1, 1), .ok (.iadd, 1), .ok (.iaload, 1), .ok (.invokevirtual 112, 3), .ok (.pop, 1), .ok (.aload_n 2, 1), .ok (.aload_n 0, 1), .ok (.iload 4, 2), .ok (.iconst 1, 1), .ok (.iadd, 1), .ok (.iaload, 1), .ok (.invokevirtual 115, 3), .ok (.pop, 1), .ok (.goto 650, 3), .ok (.aload_n 1, 1), .ok (.aload_n 0, 1), .ok (.iload 4, 2), .ok (.iconst 1, 1), .ok (.iadd, 1), .ok (.iaload, 1), .ok (.aload_n 0, 1), .ok (.iload 4, 2)] := wk_map (t := [(1113, .iconst 2, 1), (1114, .iadd, 1), (1115, .iaload, 1), (1116, .aload_n 0, 1), (1117, .iload 4, 2), (1119, .iconst 3, 1), (1120, .iadd, 1), (1121, .iaload, 1), (1122, .aload_n 0, 1), (1123, .iload 4, 2), (1125, .iconst 4, 1), (1126, .iadd, 1), (1127, .iaload, 1), (1128, .invokevirtual 108, 3), (1131, .pop, 1), (1132, .aload_n 2, 1), (1133, .aload_n 0, 1), (1134, .iload 4, 2), (1136, .iconst 1, 1), (1137, .iadd, 1), (1138, .iaload, 1), (1139, .aload_n 0, 1), (1140, .iload 4, 2), (1142, .iconst 2, 1), (1143, .iadd, 1), (1144, .iaload, 1), (1145, .aload_n 0, 1), (1146, .iload 4, 2), (1148, .iconst 3, 1), (1149, .iadd, 1), (1150, .iaload, 1), (1151, .aload_n 0, 1), (1152, .iload 4, 2), (1154, .iconst 4, 1), (1155, .iadd, 1), (1156, .iaload, 1), (1157, .invokevirtual 111, 3), (1160, .pop, 1), (1161, .goto 675, 3), (1164, .aload_n 1, 1), (1165, .aload_n 0, 1), (1166, .iload 4, 2), (1168, .iconst 1, 1), (1169, .iadd, 1), (1170, .iaload, 1), (1171, .invokevirtual 112, 3), (1174, .pop, 1), (1175, .aload_n 2, 1), (1176, .aload_n 0, 1), (1177, .iload 4, 2), (1179, .iconst 1, 1), (1180, .iadd, 1), (1181, .iaload, 1), (1182, .invokevirtual 115, 3), (1185, .pop, 1), (1186, .goto 650, 3), (1189, .aload_n 1, 1), (1190, .aload_n 0, 1), (1191, .iload 4, 2), (1193, .iconst 1, 1), (1194, .iadd, 1), (1195, .iaload, 1), (1196, .aload_n 0, 1), (1197, .iload 4, 2)]) (by decide +kernel)
theorem dL_law_1113 : decode cL_law 1113 = .ok (.iconst 2, 1) := row_of dLc_1113 0 rfl rfl
theorem dL_law_1114 : decode cL_law 1114 = .ok (.iadd, 1) := row_of dLc_1113 1 rfl rfl
theorem dL_law_1115 : decode cL_law 1115 = .ok (.iaload, 1) := row_of dLc_1113 2 rfl rfl
theorem dL_law_1116 : decode cL_law 1116 = .ok (.aload_n 0, 1) := row_of dLc_1113 3 rfl rfl
theorem dL_law_1117 : decode cL_law 1117 = .ok (.iload 4, 2) := row_of dLc_1113 4 rfl rfl
theorem dL_law_1119 : decode cL_law 1119 = .ok (.iconst 3, 1) := row_of dLc_1113 5 rfl rfl
theorem dL_law_1120 : decode cL_law 1120 = .ok (.iadd, 1) := row_of dLc_1113 6 rfl rfl
theorem dL_law_1121 : decode cL_law 1121 = .ok (.iaload, 1) := row_of dLc_1113 7 rfl rfl
theorem dL_law_1122 : decode cL_law 1122 = .ok (.aload_n 0, 1) := row_of dLc_1113 8 rfl rfl
theorem dL_law_1123 : decode cL_law 1123 = .ok (.iload 4, 2) := row_of dLc_1113 9 rfl rfl
theorem dL_law_1125 : decode cL_law 1125 = .ok (.iconst 4, 1) := row_of dLc_1113 10 rfl rfl
theorem dL_law_1126 : decode cL_law 1126 = .ok (.iadd, 1) := row_of dLc_1113 11 rfl rfl
theorem dL_law_1127 : decode cL_law 1127 = .ok (.iaload, 1) := row_of dLc_1113 12 rfl rfl
theorem dL_law_1128 : decode cL_law 1128 = .ok (.invokevirtual 108, 3) := row_of dLc_1113 13 rfl rfl
theorem dL_law_1131 : decode cL_law 1131 = .ok (.pop, 1) := row_of dLc_1113 14 rfl rfl
theorem dL_law_1132 : decode cL_law 1132 = .ok (.aload_n 2, 1) := row_of dLc_1113 15 rfl rfl
theorem dL_law_1133 : decode cL_law 1133 = .ok (.aload_n 0, 1) := row_of dLc_1113 16 rfl rfl
theorem dL_law_1134 : decode cL_law 1134 = .ok (.iload 4, 2) := row_of dLc_1113 17 rfl rfl
theorem dL_law_1136 : decode cL_law 1136 = .ok (.iconst 1, 1) := row_of dLc_1113 18 rfl rfl
theorem dL_law_1137 : decode cL_law 1137 = .ok (.iadd, 1) := row_of dLc_1113 19 rfl rfl
theorem dL_law_1138 : decode cL_law 1138 = .ok (.iaload, 1) := row_of dLc_1113 20 rfl rfl
theorem dL_law_1139 : decode cL_law 1139 = .ok (.aload_n 0, 1) := row_of dLc_1113 21 rfl rfl
theorem dL_law_1140 : decode cL_law 1140 = .ok (.iload 4, 2) := row_of dLc_1113 22 rfl rfl
theorem dL_law_1142 : decode cL_law 1142 = .ok (.iconst 2, 1) := row_of dLc_1113 23 rfl rfl
theorem dL_law_1143 : decode cL_law 1143 = .ok (.iadd, 1) := row_of dLc_1113 24 rfl rfl
theorem dL_law_1144 : decode cL_law 1144 = .ok (.iaload, 1) := row_of dLc_1113 25 rfl rfl
theorem dL_law_1145 : decode cL_law 1145 = .ok (.aload_n 0, 1) := row_of dLc_1113 26 rfl rfl
theorem dL_law_1146 : decode cL_law 1146 = .ok (.iload 4, 2) := row_of dLc_1113 27 rfl rfl
theorem dL_law_1148 : decode cL_law 1148 = .ok (.iconst 3, 1) := row_of dLc_1113 28 rfl rfl
theorem dL_law_1149 : decode cL_law 1149 = .ok (.iadd, 1) := row_of dLc_1113 29 rfl rfl
theorem dL_law_1150 : decode cL_law 1150 = .ok (.iaload, 1) := row_of dLc_1113 30 rfl rfl
theorem dL_law_1151 : decode cL_law 1151 = .ok (.aload_n 0, 1) := row_of dLc_1113 31 rfl rfl
theorem dL_law_1152 : decode cL_law 1152 = .ok (.iload 4, 2) := row_of dLc_1113 32 rfl rfl
theorem dL_law_1154 : decode cL_law 1154 = .ok (.iconst 4, 1) := row_of dLc_1113 33 rfl rfl
theorem dL_law_1155 : decode cL_law 1155 = .ok (.iadd, 1) := row_of dLc_1113 34 rfl rfl
theorem dL_law_1156 : decode cL_law 1156 = .ok (.iaload, 1) := row_of dLc_1113 35 rfl rfl
theorem dL_law_1157 : decode cL_law 1157 = .ok (.invokevirtual 111, 3) := row_of dLc_1113 36 rfl rfl
theorem dL_law_1160 : decode cL_law 1160 = .ok (.pop, 1) := row_of dLc_1113 37 rfl rfl
theorem dL_law_1161 : decode cL_law 1161 = .ok (.goto 675, 3) := row_of dLc_1113 38 rfl rfl
theorem dL_law_1164 : decode cL_law 1164 = .ok (.aload_n 1, 1) := row_of dLc_1113 39 rfl rfl
theorem dL_law_1165 : decode cL_law 1165 = .ok (.aload_n 0, 1) := row_of dLc_1113 40 rfl rfl
theorem dL_law_1166 : decode cL_law 1166 = .ok (.iload 4, 2) := row_of dLc_1113 41 rfl rfl
theorem dL_law_1168 : decode cL_law 1168 = .ok (.iconst 1, 1) := row_of dLc_1113 42 rfl rfl
theorem dL_law_1169 : decode cL_law 1169 = .ok (.iadd, 1) := row_of dLc_1113 43 rfl rfl
theorem dL_law_1170 : decode cL_law 1170 = .ok (.iaload, 1) := row_of dLc_1113 44 rfl rfl
theorem dL_law_1171 : decode cL_law 1171 = .ok (.invokevirtual 112, 3) := row_of dLc_1113 45 rfl rfl
theorem dL_law_1174 : decode cL_law 1174 = .ok (.pop, 1) := row_of dLc_1113 46 rfl rfl
theorem dL_law_1175 : decode cL_law 1175 = .ok (.aload_n 2, 1) := row_of dLc_1113 47 rfl rfl
theorem dL_law_1176 : decode cL_law 1176 = .ok (.aload_n 0, 1) := row_of dLc_1113 48 rfl rfl
theorem dL_law_1177 : decode cL_law 1177 = .ok (.iload 4, 2) := row_of dLc_1113 49 rfl rfl
theorem dL_law_1179 : decode cL_law 1179 = .ok (.iconst 1, 1) := row_of dLc_1113 50 rfl rfl
theorem dL_law_1180 : decode cL_law 1180 = .ok (.iadd, 1) := row_of dLc_1113 51 rfl rfl
theorem dL_law_1181 : decode cL_law 1181 = .ok (.iaload, 1) := row_of dLc_1113 52 rfl rfl
theorem dL_law_1182 : decode cL_law 1182 = .ok (.invokevirtual 115, 3) := row_of dLc_1113 53 rfl rfl
theorem dL_law_1185 : decode cL_law 1185 = .ok (.pop, 1) := row_of dLc_1113 54 rfl rfl
theorem dL_law_1186 : decode cL_law 1186 = .ok (.goto 650, 3) := row_of dLc_1113 55 rfl rfl
theorem dL_law_1189 : decode cL_law 1189 = .ok (.aload_n 1, 1) := row_of dLc_1113 56 rfl rfl
theorem dL_law_1190 : decode cL_law 1190 = .ok (.aload_n 0, 1) := row_of dLc_1113 57 rfl rfl
theorem dL_law_1191 : decode cL_law 1191 = .ok (.iload 4, 2) := row_of dLc_1113 58 rfl rfl
theorem dL_law_1193 : decode cL_law 1193 = .ok (.iconst 1, 1) := row_of dLc_1113 59 rfl rfl
theorem dL_law_1194 : decode cL_law 1194 = .ok (.iadd, 1) := row_of dLc_1113 60 rfl rfl
theorem dL_law_1195 : decode cL_law 1195 = .ok (.iaload, 1) := row_of dLc_1113 61 rfl rfl
theorem dL_law_1196 : decode cL_law 1196 = .ok (.aload_n 0, 1) := row_of dLc_1113 62 rfl rfl
theorem dL_law_1197 : decode cL_law 1197 = .ok (.iload 4, 2) := row_of dLc_1113 63 rfl rfl
theorem dLc_1199 : List.map (decode cL_law) [1199, 1200, 1201, 1202, 1205, 1206, 1207, 1208, 1210, 1211, 1212, 1213, 1214, 1216, 1217, 1218, 1219, 1222, 1223, 1226, 1227, 1228, 1230, 1231, 1232, 1233, 1234, 1236, 1237, 1238, 1239, 1242, 1243, 1244, 1245, 1247, 1248, 1249, 1250, 1251, 1253, 1254, 1255, 1256, 1259, 1260, 1263, 1264, 1265, 1267, 1268, 1269, 1270, 1271, 1273, 1274, 1275, 1276, 1277, 1279, 1280, 1281, 1282, 1285] = [.ok (.iconst 2, 1), .ok (.iadd, 1), .ok (.iaload, 1), .ok (.invokevirtual 116, 3), .ok (.pop, 1), .ok (.aload_n 2, 1), .ok (.aload_n 0, 1), .ok (.iload 4, 2), .ok (.iconst 1, 1), .ok (.iadd, 1), .ok (.iaload, 1), .ok (.aload_n 0, 1), .ok (.iload 4, 2), .ok (.iconst 2, 1), .ok (.iadd, 1), .ok (.iaload, 1), .ok (.invokevirtual 119, 3), .ok (.pop, 1), .ok (.goto 613, 3), .ok (.aload_n 1, 1), .ok (.aload_n 0, 1), .ok (.iload 4, 2), .ok (.iconst 1, 1), .ok (.iadd, 1), .ok (.iaload, 1), .ok (.aload_n 0, 1), .ok (.iload 4, 2), .ok (.iconst 2, 1), .ok (.iadd, 1), .ok (.iaload, 1), .ok (.invokevirtual 120, 3), .ok (.pop, 1), .ok (.aload_n 2, 1), .ok (.aload_n 0, 1), .ok (.iload 4, 2), .ok (.iconst 1, 1), .ok (.iadd, 1), .ok (.iaload, 1), .ok (.aload_n 0, 1), .ok (.iload 4, 2), .ok (.iconst 2, 1), .ok (.iadd, 1), .ok (.iaload, 1), .ok (.invokevirtual 123, 3), .ok (.pop, 1), .ok (.goto 576, 3), .ok (.aload_n 1, 1), .ok (.aload_n 0, 1), .ok (.iload 4, 2), .ok (.iconst 1, 1), .ok (.iadd, 1), .ok (.iaload, 1), .ok (.aload_n 0, 1), .ok (.iload 4, 2), .ok (.iconst 2, 1), .ok (.iadd, 1), .ok (.iaload, 1), .ok (.aload_n 0, 1), .ok (.iload 4, 2), .ok (.iconst 3, 1), .ok (.iadd, 1), .ok (.iaload, 1), .ok (.invokevirtual 124, 3), .ok (.pop, 1)] := wk_map (t := [(1199, .iconst 2, 1), (1200, .iadd, 1), (1201, .iaload, 1), (1202, .invokevirtual 116, 3), (1205, .pop, 1), (1206, .aload_n 2, 1), (1207, .aload_n 0, 1), (1208, .iload 4, 2), (1210, .iconst 1, 1), (1211, .iadd, 1), (1212, .iaload, 1), (1213, .aload_n 0, 1), (1214, .iload 4, 2), (1216, .iconst 2, 1), (1217, .iadd, 1), (1218, .iaload, 1), (1219, .invokevirtual 119, 3), (1222, .pop, 1), (1223, .goto 613, 3), (1226, .aload_n 1, 1), (1227, .aload_n 0, 1), (1228, .iload 4, 2), (1230, .iconst 1, 1), (1231, .iadd, 1), (1232, .iaload, 1), (1233, .aload_n 0, 1), (1234, .iload 4, 2), (1236, .iconst 2, 1), (1237, .iadd, 1), (1238, .iaload, 1), (1239, .invokevirtual 120, 3), (1242, .pop, 1), (1243, .aload_n 2, 1), (1244, .aload_n 0, 1), (1245, .iload 4, 2), (1247, .iconst 1, 1), (1248, .iadd, 1), (1249, .iaload, 1), (1250, .aload_n 0, 1), (1251, .iload 4, 2), (1253, .iconst 2, 1), (1254, .iadd, 1), (1255, .iaload, 1), (1256, .invokevirtual 123, 3), (1259, .pop, 1), (1260, .goto 576, 3), (1263, .aload_n 1, 1), (1264, .aload_n 0, 1), (1265, .iload 4, 2), (1267, .iconst 1, 1), (1268, .iadd, 1), (1269, .iaload, 1), (1270, .aload_n 0, 1), (1271, .iload 4, 2), (1273, .iconst 2, 1), (1274, .iadd, 1), (1275, .iaload, 1), (1276, .aload_n 0, 1), (1277, .iload 4, 2), (1279, .iconst 3, 1), (1280, .iadd, 1), (1281, .iaload, 1), (1282, .invokevirtual 124, 3), (1285, .pop, 1)]) (by decide +kernel)
theorem dL_law_1199 : decode cL_law 1199 = .ok (.iconst 2, 1) := row_of dLc_1199 0 rfl rfl
theorem dL_law_1200 : decode cL_law 1200 = .ok (.iadd, 1) := row_of dLc_1199 1 rfl rfl
theorem dL_law_1201 : decode cL_law 1201 = .ok (.iaload, 1) := row_of dLc_1199 2 rfl rfl
theorem dL_law_1202 : decode cL_law 1202 = .ok (.invokevirtual 116, 3) := row_of dLc_1199 3 rfl rfl
theorem dL_law_1205 : decode cL_law 1205 = .ok (.pop, 1) := row_of dLc_1199 4 rfl rfl
theorem dL_law_1206 : decode cL_law 1206 = .ok (.aload_n 2, 1) := row_of dLc_1199 5 rfl rfl
theorem dL_law_1207 : decode cL_law 1207 = .ok (.aload_n 0, 1) := row_of dLc_1199 6 rfl rfl
theorem dL_law_1208 : decode cL_law 1208 = .ok (.iload 4, 2) := row_of dLc_1199 7 rfl rfl
theorem dL_law_1210 : decode cL_law 1210 = .ok (.iconst 1, 1) := row_of dLc_1199 8 rfl rfl
theorem dL_law_1211 : decode cL_law 1211 = .ok (.iadd, 1) := row_of dLc_1199 9 rfl rfl
theorem dL_law_1212 : decode cL_law 1212 = .ok (.iaload, 1) := row_of dLc_1199 10 rfl rfl
theorem dL_law_1213 : decode cL_law 1213 = .ok (.aload_n 0, 1) := row_of dLc_1199 11 rfl rfl
theorem dL_law_1214 : decode cL_law 1214 = .ok (.iload 4, 2) := row_of dLc_1199 12 rfl rfl
theorem dL_law_1216 : decode cL_law 1216 = .ok (.iconst 2, 1) := row_of dLc_1199 13 rfl rfl
theorem dL_law_1217 : decode cL_law 1217 = .ok (.iadd, 1) := row_of dLc_1199 14 rfl rfl
theorem dL_law_1218 : decode cL_law 1218 = .ok (.iaload, 1) := row_of dLc_1199 15 rfl rfl
theorem dL_law_1219 : decode cL_law 1219 = .ok (.invokevirtual 119, 3) := row_of dLc_1199 16 rfl rfl
theorem dL_law_1222 : decode cL_law 1222 = .ok (.pop, 1) := row_of dLc_1199 17 rfl rfl
theorem dL_law_1223 : decode cL_law 1223 = .ok (.goto 613, 3) := row_of dLc_1199 18 rfl rfl
theorem dL_law_1226 : decode cL_law 1226 = .ok (.aload_n 1, 1) := row_of dLc_1199 19 rfl rfl
theorem dL_law_1227 : decode cL_law 1227 = .ok (.aload_n 0, 1) := row_of dLc_1199 20 rfl rfl
theorem dL_law_1228 : decode cL_law 1228 = .ok (.iload 4, 2) := row_of dLc_1199 21 rfl rfl
theorem dL_law_1230 : decode cL_law 1230 = .ok (.iconst 1, 1) := row_of dLc_1199 22 rfl rfl
theorem dL_law_1231 : decode cL_law 1231 = .ok (.iadd, 1) := row_of dLc_1199 23 rfl rfl
theorem dL_law_1232 : decode cL_law 1232 = .ok (.iaload, 1) := row_of dLc_1199 24 rfl rfl
theorem dL_law_1233 : decode cL_law 1233 = .ok (.aload_n 0, 1) := row_of dLc_1199 25 rfl rfl
theorem dL_law_1234 : decode cL_law 1234 = .ok (.iload 4, 2) := row_of dLc_1199 26 rfl rfl
theorem dL_law_1236 : decode cL_law 1236 = .ok (.iconst 2, 1) := row_of dLc_1199 27 rfl rfl
theorem dL_law_1237 : decode cL_law 1237 = .ok (.iadd, 1) := row_of dLc_1199 28 rfl rfl
theorem dL_law_1238 : decode cL_law 1238 = .ok (.iaload, 1) := row_of dLc_1199 29 rfl rfl
theorem dL_law_1239 : decode cL_law 1239 = .ok (.invokevirtual 120, 3) := row_of dLc_1199 30 rfl rfl
theorem dL_law_1242 : decode cL_law 1242 = .ok (.pop, 1) := row_of dLc_1199 31 rfl rfl
theorem dL_law_1243 : decode cL_law 1243 = .ok (.aload_n 2, 1) := row_of dLc_1199 32 rfl rfl
theorem dL_law_1244 : decode cL_law 1244 = .ok (.aload_n 0, 1) := row_of dLc_1199 33 rfl rfl
theorem dL_law_1245 : decode cL_law 1245 = .ok (.iload 4, 2) := row_of dLc_1199 34 rfl rfl
theorem dL_law_1247 : decode cL_law 1247 = .ok (.iconst 1, 1) := row_of dLc_1199 35 rfl rfl
theorem dL_law_1248 : decode cL_law 1248 = .ok (.iadd, 1) := row_of dLc_1199 36 rfl rfl
theorem dL_law_1249 : decode cL_law 1249 = .ok (.iaload, 1) := row_of dLc_1199 37 rfl rfl
theorem dL_law_1250 : decode cL_law 1250 = .ok (.aload_n 0, 1) := row_of dLc_1199 38 rfl rfl
theorem dL_law_1251 : decode cL_law 1251 = .ok (.iload 4, 2) := row_of dLc_1199 39 rfl rfl
theorem dL_law_1253 : decode cL_law 1253 = .ok (.iconst 2, 1) := row_of dLc_1199 40 rfl rfl
theorem dL_law_1254 : decode cL_law 1254 = .ok (.iadd, 1) := row_of dLc_1199 41 rfl rfl
theorem dL_law_1255 : decode cL_law 1255 = .ok (.iaload, 1) := row_of dLc_1199 42 rfl rfl
theorem dL_law_1256 : decode cL_law 1256 = .ok (.invokevirtual 123, 3) := row_of dLc_1199 43 rfl rfl
theorem dL_law_1259 : decode cL_law 1259 = .ok (.pop, 1) := row_of dLc_1199 44 rfl rfl
theorem dL_law_1260 : decode cL_law 1260 = .ok (.goto 576, 3) := row_of dLc_1199 45 rfl rfl
theorem dL_law_1263 : decode cL_law 1263 = .ok (.aload_n 1, 1) := row_of dLc_1199 46 rfl rfl
theorem dL_law_1264 : decode cL_law 1264 = .ok (.aload_n 0, 1) := row_of dLc_1199 47 rfl rfl
theorem dL_law_1265 : decode cL_law 1265 = .ok (.iload 4, 2) := row_of dLc_1199 48 rfl rfl
theorem dL_law_1267 : decode cL_law 1267 = .ok (.iconst 1, 1) := row_of dLc_1199 49 rfl rfl
theorem dL_law_1268 : decode cL_law 1268 = .ok (.iadd, 1) := row_of dLc_1199 50 rfl rfl
theorem dL_law_1269 : decode cL_law 1269 = .ok (.iaload, 1) := row_of dLc_1199 51 rfl rfl
theorem dL_law_1270 : decode cL_law 1270 = .ok (.aload_n 0, 1) := row_of dLc_1199 52 rfl rfl
theorem dL_law_1271 : decode cL_law 1271 = .ok (.iload 4, 2) := row_of dLc_1199 53 rfl rfl
theorem dL_law_1273 : decode cL_law 1273 = .ok (.iconst 2, 1) := row_of dLc_1199 54 rfl rfl
theorem dL_law_1274 : decode cL_law 1274 = .ok (.iadd, 1) := row_of dLc_1199 55 rfl rfl
theorem dL_law_1275 : decode cL_law 1275 = .ok (.iaload, 1) := row_of dLc_1199 56 rfl rfl
theorem dL_law_1276 : decode cL_law 1276 = .ok (.aload_n 0, 1) := row_of dLc_1199 57 rfl rfl
theorem dL_law_1277 : decode cL_law 1277 = .ok (.iload 4, 2) := row_of dLc_1199 58 rfl rfl
theorem dL_law_1279 : decode cL_law 1279 = .ok (.iconst 3, 1) := row_of dLc_1199 59 rfl rfl
theorem dL_law_1280 : decode cL_law 1280 = .ok (.iadd, 1) := row_of dLc_1199 60 rfl rfl
theorem dL_law_1281 : decode cL_law 1281 = .ok (.iaload, 1) := row_of dLc_1199 61 rfl rfl
theorem dL_law_1282 : decode cL_law 1282 = .ok (.invokevirtual 124, 3) := row_of dLc_1199 62 rfl rfl
theorem dL_law_1285 : decode cL_law 1285 = .ok (.pop, 1) := row_of dLc_1199 63 rfl rfl
theorem dLc_1286 : List.map (decode cL_law) [1286, 1287, 1288, 1290, 1291, 1292, 1293, 1294, 1296, 1297, 1298, 1299, 1300, 1302, 1303, 1304, 1305, 1308, 1309, 1312, 1313, 1314, 1316, 1317, 1318, 1319, 1320, 1322, 1323, 1324, 1325, 1326, 1328, 1329, 1330, 1331, 1334, 1335, 1336, 1337, 1339, 1340, 1341, 1342, 1343, 1345, 1346, 1347, 1348, 1349, 1351, 1352, 1353, 1354, 1357, 1358, 1361, 1362, 1363, 1365, 1366, 1367, 1368, 1371] = [.ok (.aload_n 2, 1), .ok (.aload_n 0, 1), .ok (.iload 4, 2), .ok (.iconst 1, 1), .ok (.iadd, 1), .ok (.iaload, 1), .ok (.aload_n 0, 1), .ok (.iload 4, 2), .ok (.iconst 2, 1), .ok (.iadd, 1), .ok (.iaload, 1), .ok (.aload_n 0, 1), .ok (.iload 4, 2), .ok (.iconst 3, 1), .ok (.iadd, 1), .ok (.iaload, 1), .ok (.invokevirtual 127, 3), .ok (.pop, 1), .ok (.goto 527, 3), .ok (.aload_n 1, 1), .ok (.aload_n 0, 1), .ok (.iload 4, 2), .ok (.iconst 1, 1), .ok (.iadd, 1), .ok (.iaload, 1), .ok (.aload_n 0, 1), .ok (.iload 4, 2), .ok (.iconst 2, 1), .ok (.iadd, 1), .ok (.iaload, 1), .ok (.aload_n 0, 1), .ok (.iload 4, 2), .ok (.iconst 3, 1), .ok (.iadd, 1), .ok (.iaload, 1), .ok (.invokevirtual 128, 3), .ok (.pop, 1), .ok (.aload_n 2, 1), .ok (.aload_n 0, 1), .ok (.iload 4, 2), .ok (.iconst 1, 1), .ok (.iadd, 1), .ok (.iaload, 1), .ok (.aload_n 0, 1), .ok (.iload 4, 2), .ok (.iconst 2, 1), .ok (.iadd, 1), .ok (.iaload, 1), .ok (.aload_n 0, 1), .ok (.iload 4, 2), .ok (.iconst 3, 1), .ok (.iadd, 1), .ok (.iaload, 1), .ok (.invokevirtual 131, 3), .ok (.pop, 1), .ok (.goto 478, 3), .ok (.aload_n 1, 1), .ok (.aload_n 0, 1), .ok (.iload 4, 2), .ok (.iconst 1, 1), .ok (.iadd, 1), .ok (.iaload, 1), .ok (.invokevirtual 132, 3), .ok (.pop, 1)] := wk_map (t := [(1286, .aload_n 2, 1), (1287, .aload_n 0, 1), (1288, .iload 4, 2), (1290, .iconst 1, 1), (1291, .iadd, 1), (1292, .iaload, 1), (1293, .aload_n 0, 1), (1294, .iload 4, 2), (1296, .iconst 2, 1), (1297, .iadd, 1), (1298, .iaload, 1), (1299, .aload_n 0, 1), (1300, .iload 4, 2), (1302, .iconst 3, 1), (1303, .iadd, 1), (1304, .iaload, 1), (1305, .invokevirtual 127, 3), (1308, .pop, 1), (1309, .goto 527, 3), (1312, .aload_n 1, 1), (1313, .aload_n 0, 1), (1314, .iload 4, 2), (1316, .iconst 1, 1), (1317, .iadd, 1), (1318, .iaload, 1), (1319, .aload_n 0, 1), (1320, .iload 4, 2), (1322, .iconst 2, 1), (1323, .iadd, 1), (1324, .iaload, 1), (1325, .aload_n 0, 1), (1326, .iload 4, 2), (1328, .iconst 3, 1), (1329, .iadd, 1), (1330, .iaload, 1), (1331, .invokevirtual 128, 3), (1334, .pop, 1), (1335, .aload_n 2, 1), (1336, .aload_n 0, 1), (1337, .iload 4, 2), (1339, .iconst 1, 1), (1340, .iadd, 1), (1341, .iaload, 1), (1342, .aload_n 0, 1), (1343, .iload 4, 2), (1345, .iconst 2, 1), (1346, .iadd, 1), (1347, .iaload, 1), (1348, .aload_n 0, 1), (1349, .iload 4, 2), (1351, .iconst 3, 1), (1352, .iadd, 1), (1353, .iaload, 1), (1354, .invokevirtual 131, 3), (1357, .pop, 1), (1358, .goto 478, 3), (1361, .aload_n 1, 1), (1362, .aload_n 0, 1), (1363, .iload 4, 2), (1365, .iconst 1, 1), (1366, .iadd, 1), (1367, .iaload, 1), (1368, .invokevirtual 132, 3), (1371, .pop, 1)]) (by decide +kernel)
theorem dL_law_1286 : decode cL_law 1286 = .ok (.aload_n 2, 1) := row_of dLc_1286 0 rfl rfl
theorem dL_law_1287 : decode cL_law 1287 = .ok (.aload_n 0, 1) := row_of dLc_1286 1 rfl rfl
theorem dL_law_1288 : decode cL_law 1288 = .ok (.iload 4, 2) := row_of dLc_1286 2 rfl rfl
theorem dL_law_1290 : decode cL_law 1290 = .ok (.iconst 1, 1) := row_of dLc_1286 3 rfl rfl
theorem dL_law_1291 : decode cL_law 1291 = .ok (.iadd, 1) := row_of dLc_1286 4 rfl rfl
theorem dL_law_1292 : decode cL_law 1292 = .ok (.iaload, 1) := row_of dLc_1286 5 rfl rfl
theorem dL_law_1293 : decode cL_law 1293 = .ok (.aload_n 0, 1) := row_of dLc_1286 6 rfl rfl
theorem dL_law_1294 : decode cL_law 1294 = .ok (.iload 4, 2) := row_of dLc_1286 7 rfl rfl
theorem dL_law_1296 : decode cL_law 1296 = .ok (.iconst 2, 1) := row_of dLc_1286 8 rfl rfl
theorem dL_law_1297 : decode cL_law 1297 = .ok (.iadd, 1) := row_of dLc_1286 9 rfl rfl
theorem dL_law_1298 : decode cL_law 1298 = .ok (.iaload, 1) := row_of dLc_1286 10 rfl rfl
theorem dL_law_1299 : decode cL_law 1299 = .ok (.aload_n 0, 1) := row_of dLc_1286 11 rfl rfl
theorem dL_law_1300 : decode cL_law 1300 = .ok (.iload 4, 2) := row_of dLc_1286 12 rfl rfl
theorem dL_law_1302 : decode cL_law 1302 = .ok (.iconst 3, 1) := row_of dLc_1286 13 rfl rfl
theorem dL_law_1303 : decode cL_law 1303 = .ok (.iadd, 1) := row_of dLc_1286 14 rfl rfl
theorem dL_law_1304 : decode cL_law 1304 = .ok (.iaload, 1) := row_of dLc_1286 15 rfl rfl
theorem dL_law_1305 : decode cL_law 1305 = .ok (.invokevirtual 127, 3) := row_of dLc_1286 16 rfl rfl
theorem dL_law_1308 : decode cL_law 1308 = .ok (.pop, 1) := row_of dLc_1286 17 rfl rfl
theorem dL_law_1309 : decode cL_law 1309 = .ok (.goto 527, 3) := row_of dLc_1286 18 rfl rfl
theorem dL_law_1312 : decode cL_law 1312 = .ok (.aload_n 1, 1) := row_of dLc_1286 19 rfl rfl
theorem dL_law_1313 : decode cL_law 1313 = .ok (.aload_n 0, 1) := row_of dLc_1286 20 rfl rfl
theorem dL_law_1314 : decode cL_law 1314 = .ok (.iload 4, 2) := row_of dLc_1286 21 rfl rfl
theorem dL_law_1316 : decode cL_law 1316 = .ok (.iconst 1, 1) := row_of dLc_1286 22 rfl rfl
theorem dL_law_1317 : decode cL_law 1317 = .ok (.iadd, 1) := row_of dLc_1286 23 rfl rfl
theorem dL_law_1318 : decode cL_law 1318 = .ok (.iaload, 1) := row_of dLc_1286 24 rfl rfl
theorem dL_law_1319 : decode cL_law 1319 = .ok (.aload_n 0, 1) := row_of dLc_1286 25 rfl rfl
theorem dL_law_1320 : decode cL_law 1320 = .ok (.iload 4, 2) := row_of dLc_1286 26 rfl rfl
theorem dL_law_1322 : decode cL_law 1322 = .ok (.iconst 2, 1) := row_of dLc_1286 27 rfl rfl
theorem dL_law_1323 : decode cL_law 1323 = .ok (.iadd, 1) := row_of dLc_1286 28 rfl rfl
theorem dL_law_1324 : decode cL_law 1324 = .ok (.iaload, 1) := row_of dLc_1286 29 rfl rfl
theorem dL_law_1325 : decode cL_law 1325 = .ok (.aload_n 0, 1) := row_of dLc_1286 30 rfl rfl
theorem dL_law_1326 : decode cL_law 1326 = .ok (.iload 4, 2) := row_of dLc_1286 31 rfl rfl
theorem dL_law_1328 : decode cL_law 1328 = .ok (.iconst 3, 1) := row_of dLc_1286 32 rfl rfl
theorem dL_law_1329 : decode cL_law 1329 = .ok (.iadd, 1) := row_of dLc_1286 33 rfl rfl
theorem dL_law_1330 : decode cL_law 1330 = .ok (.iaload, 1) := row_of dLc_1286 34 rfl rfl
theorem dL_law_1331 : decode cL_law 1331 = .ok (.invokevirtual 128, 3) := row_of dLc_1286 35 rfl rfl
theorem dL_law_1334 : decode cL_law 1334 = .ok (.pop, 1) := row_of dLc_1286 36 rfl rfl
theorem dL_law_1335 : decode cL_law 1335 = .ok (.aload_n 2, 1) := row_of dLc_1286 37 rfl rfl
theorem dL_law_1336 : decode cL_law 1336 = .ok (.aload_n 0, 1) := row_of dLc_1286 38 rfl rfl
theorem dL_law_1337 : decode cL_law 1337 = .ok (.iload 4, 2) := row_of dLc_1286 39 rfl rfl
theorem dL_law_1339 : decode cL_law 1339 = .ok (.iconst 1, 1) := row_of dLc_1286 40 rfl rfl
theorem dL_law_1340 : decode cL_law 1340 = .ok (.iadd, 1) := row_of dLc_1286 41 rfl rfl
theorem dL_law_1341 : decode cL_law 1341 = .ok (.iaload, 1) := row_of dLc_1286 42 rfl rfl
theorem dL_law_1342 : decode cL_law 1342 = .ok (.aload_n 0, 1) := row_of dLc_1286 43 rfl rfl
theorem dL_law_1343 : decode cL_law 1343 = .ok (.iload 4, 2) := row_of dLc_1286 44 rfl rfl
theorem dL_law_1345 : decode cL_law 1345 = .ok (.iconst 2, 1) := row_of dLc_1286 45 rfl rfl
theorem dL_law_1346 : decode cL_law 1346 = .ok (.iadd, 1) := row_of dLc_1286 46 rfl rfl
theorem dL_law_1347 : decode cL_law 1347 = .ok (.iaload, 1) := row_of dLc_1286 47 rfl rfl
theorem dL_law_1348 : decode cL_law 1348 = .ok (.aload_n 0, 1) := row_of dLc_1286 48 rfl rfl
theorem dL_law_1349 : decode cL_law 1349 = .ok (.iload 4, 2) := row_of dLc_1286 49 rfl rfl
theorem dL_law_1351 : decode cL_law 1351 = .ok (.iconst 3, 1) := row_of dLc_1286 50 rfl rfl
theorem dL_law_1352 : decode cL_law 1352 = .ok (.iadd, 1) := row_of dLc_1286 51 rfl rfl
theorem dL_law_1353 : decode cL_law 1353 = .ok (.iaload, 1) := row_of dLc_1286 52 rfl rfl
theorem dL_law_1354 : decode cL_law 1354 = .ok (.invokevirtual 131, 3) := row_of dLc_1286 53 rfl rfl
theorem dL_law_1357 : decode cL_law 1357 = .ok (.pop, 1) := row_of dLc_1286 54 rfl rfl
theorem dL_law_1358 : decode cL_law 1358 = .ok (.goto 478, 3) := row_of dLc_1286 55 rfl rfl
theorem dL_law_1361 : decode cL_law 1361 = .ok (.aload_n 1, 1) := row_of dLc_1286 56 rfl rfl
theorem dL_law_1362 : decode cL_law 1362 = .ok (.aload_n 0, 1) := row_of dLc_1286 57 rfl rfl
theorem dL_law_1363 : decode cL_law 1363 = .ok (.iload 4, 2) := row_of dLc_1286 58 rfl rfl
theorem dL_law_1365 : decode cL_law 1365 = .ok (.iconst 1, 1) := row_of dLc_1286 59 rfl rfl
theorem dL_law_1366 : decode cL_law 1366 = .ok (.iadd, 1) := row_of dLc_1286 60 rfl rfl
theorem dL_law_1367 : decode cL_law 1367 = .ok (.iaload, 1) := row_of dLc_1286 61 rfl rfl
theorem dL_law_1368 : decode cL_law 1368 = .ok (.invokevirtual 132, 3) := row_of dLc_1286 62 rfl rfl
theorem dL_law_1371 : decode cL_law 1371 = .ok (.pop, 1) := row_of dLc_1286 63 rfl rfl
theorem dLc_1372 : List.map (decode cL_law) [1372, 1373, 1374, 1376, 1377, 1378, 1379, 1382, 1383, 1386, 1387, 1388, 1390, 1391, 1392, 1393, 1394, 1396, 1397, 1398, 1399, 1402, 1403, 1404, 1405, 1407, 1408, 1409, 1410, 1411, 1413, 1414, 1415, 1416, 1419, 1420, 1423, 1424, 1425, 1427, 1428, 1429, 1430, 1431, 1433, 1434, 1435, 1436, 1437, 1439, 1440, 1441, 1442, 1443, 1445, 1446, 1447, 1448, 1451, 1452, 1453, 1454, 1456, 1457] = [.ok (.aload_n 2, 1), .ok (.aload_n 0, 1), .ok (.iload 4, 2), .ok (.iconst 1, 1), .ok (.iadd, 1), .ok (.iaload, 1), .ok (.invokevirtual 135, 3), .ok (.pop, 1), .ok (.goto 453, 3), .ok (.aload_n 1, 1), .ok (.aload_n 0, 1), .ok (.iload 4, 2), .ok (.iconst 1, 1), .ok (.iadd, 1), .ok (.iaload, 1), .ok (.aload_n 0, 1), .ok (.iload 4, 2), .ok (.iconst 2, 1), .ok (.iadd, 1), .ok (.iaload, 1), .ok (.invokevirtual 136, 3), .ok (.pop, 1), .ok (.aload_n 2, 1), .ok (.aload_n 0, 1), .ok (.iload 4, 2), .ok (.iconst 1, 1), .ok (.iadd, 1), .ok (.iaload, 1), .ok (.aload_n 0, 1), .ok (.iload 4, 2), .ok (.iconst 2, 1), .ok (.iadd, 1), .ok (.iaload, 1), .ok (.invokevirtual 139, 3), .ok (.pop, 1), .ok (.goto 416, 3), .ok (.aload_n 1, 1), .ok (.aload_n 0, 1), .ok (.iload 4, 2), .ok (.iconst 1, 1), .ok (.iadd, 1), .ok (.iaload, 1), .ok (.aload_n 0, 1), .ok (.iload 4, 2), .ok (.iconst 2, 1), .ok (.iadd, 1), .ok (.iaload, 1), .ok (.aload_n 0, 1), .ok (.iload 4, 2), .ok (.iconst 3, 1), .ok (.iadd, 1), .ok (.iaload, 1), .ok (.aload_n 0, 1), .ok (.iload 4, 2), .ok (.iconst 4, 1), .ok (.iadd, 1), .ok (.iaload, 1), .ok (.invokevirtual 140, 3), .ok (.pop, 1), .ok (.aload_n 2, 1), .ok (.aload_n 0, 1), .ok (.iload 4, 2), .ok (.iconst 1, 1), .ok (.iadd, 1)] := wk_map (t := [(1372, .aload_n 2, 1), (1373, .aload_n 0, 1), (1374, .iload 4, 2), (1376, .iconst 1, 1), (1377, .iadd, 1), (1378, .iaload, 1), (1379, .invokevirtual 135, 3), (1382, .pop, 1), (1383, .goto 453, 3), (1386, .aload_n 1, 1), (1387, .aload_n 0, 1), (1388, .iload 4, 2), (1390, .iconst 1, 1), (1391, .iadd, 1), (1392, .iaload, 1), (1393, .aload_n 0, 1), (1394, .iload 4, 2), (1396, .iconst 2, 1), (1397, .iadd, 1), (1398, .iaload, 1), (1399, .invokevirtual 136, 3), (1402, .pop, 1), (1403, .aload_n 2, 1), (1404, .aload_n 0, 1), (1405, .iload 4, 2), (1407, .iconst 1, 1), (1408, .iadd, 1), (1409, .iaload, 1), (1410, .aload_n 0, 1), (1411, .iload 4, 2), (1413, .iconst 2, 1), (1414, .iadd, 1), (1415, .iaload, 1), (1416, .invokevirtual 139, 3), (1419, .pop, 1), (1420, .goto 416, 3), (1423, .aload_n 1, 1), (1424, .aload_n 0, 1), (1425, .iload 4, 2), (1427, .iconst 1, 1), (1428, .iadd, 1), (1429, .iaload, 1), (1430, .aload_n 0, 1), (1431, .iload 4, 2), (1433, .iconst 2, 1), (1434, .iadd, 1), (1435, .iaload, 1), (1436, .aload_n 0, 1), (1437, .iload 4, 2), (1439, .iconst 3, 1), (1440, .iadd, 1), (1441, .iaload, 1), (1442, .aload_n 0, 1), (1443, .iload 4, 2), (1445, .iconst 4, 1), (1446, .iadd, 1), (1447, .iaload, 1), (1448, .invokevirtual 140, 3), (1451, .pop, 1), (1452, .aload_n 2, 1), (1453, .aload_n 0, 1), (1454, .iload 4, 2), (1456, .iconst 1, 1), (1457, .iadd, 1)]) (by decide +kernel)
theorem dL_law_1372 : decode cL_law 1372 = .ok (.aload_n 2, 1) := row_of dLc_1372 0 rfl rfl
theorem dL_law_1373 : decode cL_law 1373 = .ok (.aload_n 0, 1) := row_of dLc_1372 1 rfl rfl
theorem dL_law_1374 : decode cL_law 1374 = .ok (.iload 4, 2) := row_of dLc_1372 2 rfl rfl
theorem dL_law_1376 : decode cL_law 1376 = .ok (.iconst 1, 1) := row_of dLc_1372 3 rfl rfl
theorem dL_law_1377 : decode cL_law 1377 = .ok (.iadd, 1) := row_of dLc_1372 4 rfl rfl
theorem dL_law_1378 : decode cL_law 1378 = .ok (.iaload, 1) := row_of dLc_1372 5 rfl rfl
theorem dL_law_1379 : decode cL_law 1379 = .ok (.invokevirtual 135, 3) := row_of dLc_1372 6 rfl rfl
theorem dL_law_1382 : decode cL_law 1382 = .ok (.pop, 1) := row_of dLc_1372 7 rfl rfl
theorem dL_law_1383 : decode cL_law 1383 = .ok (.goto 453, 3) := row_of dLc_1372 8 rfl rfl
theorem dL_law_1386 : decode cL_law 1386 = .ok (.aload_n 1, 1) := row_of dLc_1372 9 rfl rfl
theorem dL_law_1387 : decode cL_law 1387 = .ok (.aload_n 0, 1) := row_of dLc_1372 10 rfl rfl
theorem dL_law_1388 : decode cL_law 1388 = .ok (.iload 4, 2) := row_of dLc_1372 11 rfl rfl
theorem dL_law_1390 : decode cL_law 1390 = .ok (.iconst 1, 1) := row_of dLc_1372 12 rfl rfl
theorem dL_law_1391 : decode cL_law 1391 = .ok (.iadd, 1) := row_of dLc_1372 13 rfl rfl
theorem dL_law_1392 : decode cL_law 1392 = .ok (.iaload, 1) := row_of dLc_1372 14 rfl rfl
theorem dL_law_1393 : decode cL_law 1393 = .ok (.aload_n 0, 1) := row_of dLc_1372 15 rfl rfl
theorem dL_law_1394 : decode cL_law 1394 = .ok (.iload 4, 2) := row_of dLc_1372 16 rfl rfl
theorem dL_law_1396 : decode cL_law 1396 = .ok (.iconst 2, 1) := row_of dLc_1372 17 rfl rfl
theorem dL_law_1397 : decode cL_law 1397 = .ok (.iadd, 1) := row_of dLc_1372 18 rfl rfl
theorem dL_law_1398 : decode cL_law 1398 = .ok (.iaload, 1) := row_of dLc_1372 19 rfl rfl
theorem dL_law_1399 : decode cL_law 1399 = .ok (.invokevirtual 136, 3) := row_of dLc_1372 20 rfl rfl
theorem dL_law_1402 : decode cL_law 1402 = .ok (.pop, 1) := row_of dLc_1372 21 rfl rfl
theorem dL_law_1403 : decode cL_law 1403 = .ok (.aload_n 2, 1) := row_of dLc_1372 22 rfl rfl
theorem dL_law_1404 : decode cL_law 1404 = .ok (.aload_n 0, 1) := row_of dLc_1372 23 rfl rfl
theorem dL_law_1405 : decode cL_law 1405 = .ok (.iload 4, 2) := row_of dLc_1372 24 rfl rfl
theorem dL_law_1407 : decode cL_law 1407 = .ok (.iconst 1, 1) := row_of dLc_1372 25 rfl rfl
theorem dL_law_1408 : decode cL_law 1408 = .ok (.iadd, 1) := row_of dLc_1372 26 rfl rfl
theorem dL_law_1409 : decode cL_law 1409 = .ok (.iaload, 1) := row_of dLc_1372 27 rfl rfl
theorem dL_law_1410 : decode cL_law 1410 = .ok (.aload_n 0, 1) := row_of dLc_1372 28 rfl rfl
theorem dL_law_1411 : decode cL_law 1411 = .ok (.iload 4, 2) := row_of dLc_1372 29 rfl rfl
theorem dL_law_1413 : decode cL_law 1413 = .ok (.iconst 2, 1) := row_of dLc_1372 30 rfl rfl
theorem dL_law_1414 : decode cL_law 1414 = .ok (.iadd, 1) := row_of dLc_1372 31 rfl rfl
theorem dL_law_1415 : decode cL_law 1415 = .ok (.iaload, 1) := row_of dLc_1372 32 rfl rfl
theorem dL_law_1416 : decode cL_law 1416 = .ok (.invokevirtual 139, 3) := row_of dLc_1372 33 rfl rfl
theorem dL_law_1419 : decode cL_law 1419 = .ok (.pop, 1) := row_of dLc_1372 34 rfl rfl
theorem dL_law_1420 : decode cL_law 1420 = .ok (.goto 416, 3) := row_of dLc_1372 35 rfl rfl
theorem dL_law_1423 : decode cL_law 1423 = .ok (.aload_n 1, 1) := row_of dLc_1372 36 rfl rfl
theorem dL_law_1424 : decode cL_law 1424 = .ok (.aload_n 0, 1) := row_of dLc_1372 37 rfl rfl
theorem dL_law_1425 : decode cL_law 1425 = .ok (.iload 4, 2) := row_of dLc_1372 38 rfl rfl
theorem dL_law_1427 : decode cL_law 1427 = .ok (.iconst 1, 1) := row_of dLc_1372 39 rfl rfl
theorem dL_law_1428 : decode cL_law 1428 = .ok (.iadd, 1) := row_of dLc_1372 40 rfl rfl
theorem dL_law_1429 : decode cL_law 1429 = .ok (.iaload, 1) := row_of dLc_1372 41 rfl rfl
theorem dL_law_1430 : decode cL_law 1430 = .ok (.aload_n 0, 1) := row_of dLc_1372 42 rfl rfl
theorem dL_law_1431 : decode cL_law 1431 = .ok (.iload 4, 2) := row_of dLc_1372 43 rfl rfl
theorem dL_law_1433 : decode cL_law 1433 = .ok (.iconst 2, 1) := row_of dLc_1372 44 rfl rfl
theorem dL_law_1434 : decode cL_law 1434 = .ok (.iadd, 1) := row_of dLc_1372 45 rfl rfl
theorem dL_law_1435 : decode cL_law 1435 = .ok (.iaload, 1) := row_of dLc_1372 46 rfl rfl
theorem dL_law_1436 : decode cL_law 1436 = .ok (.aload_n 0, 1) := row_of dLc_1372 47 rfl rfl
theorem dL_law_1437 : decode cL_law 1437 = .ok (.iload 4, 2) := row_of dLc_1372 48 rfl rfl
theorem dL_law_1439 : decode cL_law 1439 = .ok (.iconst 3, 1) := row_of dLc_1372 49 rfl rfl
theorem dL_law_1440 : decode cL_law 1440 = .ok (.iadd, 1) := row_of dLc_1372 50 rfl rfl
theorem dL_law_1441 : decode cL_law 1441 = .ok (.iaload, 1) := row_of dLc_1372 51 rfl rfl
theorem dL_law_1442 : decode cL_law 1442 = .ok (.aload_n 0, 1) := row_of dLc_1372 52 rfl rfl
theorem dL_law_1443 : decode cL_law 1443 = .ok (.iload 4, 2) := row_of dLc_1372 53 rfl rfl
theorem dL_law_1445 : decode cL_law 1445 = .ok (.iconst 4, 1) := row_of dLc_1372 54 rfl rfl
theorem dL_law_1446 : decode cL_law 1446 = .ok (.iadd, 1) := row_of dLc_1372 55 rfl rfl
theorem dL_law_1447 : decode cL_law 1447 = .ok (.iaload, 1) := row_of dLc_1372 56 rfl rfl
theorem dL_law_1448 : decode cL_law 1448 = .ok (.invokevirtual 140, 3) := row_of dLc_1372 57 rfl rfl
theorem dL_law_1451 : decode cL_law 1451 = .ok (.pop, 1) := row_of dLc_1372 58 rfl rfl
theorem dL_law_1452 : decode cL_law 1452 = .ok (.aload_n 2, 1) := row_of dLc_1372 59 rfl rfl
theorem dL_law_1453 : decode cL_law 1453 = .ok (.aload_n 0, 1) := row_of dLc_1372 60 rfl rfl
theorem dL_law_1454 : decode cL_law 1454 = .ok (.iload 4, 2) := row_of dLc_1372 61 rfl rfl
theorem dL_law_1456 : decode cL_law 1456 = .ok (.iconst 1, 1) := row_of dLc_1372 62 rfl rfl
theorem dL_law_1457 : decode cL_law 1457 = .ok (.iadd, 1) := row_of dLc_1372 63 rfl rfl
theorem dLc_1458 : List.map (decode cL_law) [1458, 1459, 1460, 1462, 1463, 1464, 1465, 1466, 1468, 1469, 1470, 1471, 1472, 1474, 1475, 1476, 1477, 1480, 1481, 1484, 1485, 1486, 1488, 1489, 1490, 1491, 1492, 1494, 1495, 1496, 1497, 1500, 1501, 1502, 1503, 1505, 1506, 1507, 1508, 1509, 1511, 1512, 1513, 1514, 1517, 1518, 1521, 1522, 1523, 1525, 1526, 1527, 1528, 1531, 1532, 1533, 1534, 1536, 1537, 1538, 1539, 1542, 1543, 1546] = [.ok (.iaload, 1), .ok (.aload_n 0, 1), .ok (.iload 4, 2), .ok (.iconst 2, 1), .ok (.iadd, 1), .ok (.iaload, 1), .ok (.aload_n 0, 1), .ok (.iload 4, 2), .ok (.iconst 3, 1), .ok (.iadd, 1), .ok (.iaload, 1), .ok (.aload_n 0, 1), .ok (.iload 4, 2), .ok (.iconst 4, 1), .ok (.iadd, 1), .ok (.iaload, 1), .ok (.invokevirtual 143, 3), .ok (.pop, 1), .ok (.goto 355, 3), .ok (.aload_n 1, 1), .ok (.aload_n 0, 1), .ok (.iload 4, 2), .ok (.iconst 1, 1), .ok (.iadd, 1), .ok (.iaload, 1), .ok (.aload_n 0, 1), .ok (.iload 4, 2), .ok (.iconst 2, 1), .ok (.iadd, 1), .ok (.iaload, 1), .ok (.invokevirtual 144, 3), .ok (.pop, 1), .ok (.aload_n 2, 1), .ok (.aload_n 0, 1), .ok (.iload 4, 2), .ok (.iconst 1, 1), .ok (.iadd, 1), .ok (.iaload, 1), .ok (.aload_n 0, 1), .ok (.iload 4, 2), .ok (.iconst 2, 1), .ok (.iadd, 1), .ok (.iaload, 1), .ok (.invokevirtual 147, 3), .ok (.pop, 1), .ok (.goto 318, 3), .ok (.aload_n 1, 1), .ok (.aload_n 0, 1), .ok (.iload 4, 2), .ok (.iconst 1, 1), .ok (.iadd, 1), .ok (.iaload, 1), .ok (.invokevirtual 148, 3), .ok (.pop, 1), .ok (.aload_n 2, 1), .ok (.aload_n 0, 1), .ok (.iload 4, 2), .ok (.iconst 1, 1), .ok (.iadd, 1), .ok (.iaload, 1), .ok (.invokevirtual 151, 3), .ok (.pop, 1), .ok (.goto 293, 3), .ok (.aload_n 1, 1)] := wk_map (t := [(1458, .iaload, 1), (1459, .aload_n 0, 1), (1460, .iload 4, 2), (1462, .iconst 2, 1), (1463, .iadd, 1), (1464, .iaload, 1), (1465, .aload_n 0, 1), (1466, .iload 4, 2), (1468, .iconst 3, 1), (1469, .iadd, 1), (1470, .iaload, 1), (1471, .aload_n 0, 1), (1472, .iload 4, 2), (1474, .iconst 4, 1), (1475, .iadd, 1), (1476, .iaload, 1), (1477, .invokevirtual 143, 3), (1480, .pop, 1), (1481, .goto 355, 3), (1484, .aload_n 1, 1), (1485, .aload_n 0, 1), (1486, .iload 4, 2), (1488, .iconst 1, 1), (1489, .iadd, 1), (1490, .iaload, 1), (1491, .aload_n 0, 1), (1492, .iload 4, 2), (1494, .iconst 2, 1), (1495, .iadd, 1), (1496, .iaload, 1), (1497, .invokevirtual 144, 3), (1500, .pop, 1), (1501, .aload_n 2, 1), (1502, .aload_n 0, 1), (1503, .iload 4, 2), (1505, .iconst 1, 1), (1506, .iadd, 1), (1507, .iaload, 1), (1508, .aload_n 0, 1), (1509, .iload 4, 2), (1511, .iconst 2, 1), (1512, .iadd, 1), (1513, .iaload, 1), (1514, .invokevirtual 147, 3), (1517, .pop, 1), (1518, .goto 318, 3), (1521, .aload_n 1, 1), (1522, .aload_n 0, 1), (1523, .iload 4, 2), (1525, .iconst 1, 1), (1526, .iadd, 1), (1527, .iaload, 1), (1528, .invokevirtual 148, 3), (1531, .pop, 1), (1532, .aload_n 2, 1), (1533, .aload_n 0, 1), (1534, .iload 4, 2), (1536, .iconst 1, 1), (1537, .iadd, 1), (1538, .iaload, 1), (1539, .invokevirtual 151, 3), (1542, .pop, 1), (1543, .goto 293, 3), (1546, .aload_n 1, 1)]) (by decide +kernel)
theorem dL_law_1458 : decode cL_law 1458 = .ok (.iaload, 1) := row_of dLc_1458 0 rfl rfl
theorem dL_law_1459 : decode cL_law 1459 = .ok (.aload_n 0, 1) := row_of dLc_1458 1 rfl rfl
theorem dL_law_1460 : decode cL_law 1460 = .ok (.iload 4, 2) := row_of dLc_1458 2 rfl rfl
theorem dL_law_1462 : decode cL_law 1462 = .ok (.iconst 2, 1) := row_of dLc_1458 3 rfl rfl
theorem dL_law_1463 : decode cL_law 1463 = .ok (.iadd, 1) := row_of dLc_1458 4 rfl rfl
theorem dL_law_1464 : decode cL_law 1464 = .ok (.iaload, 1) := row_of dLc_1458 5 rfl rfl
theorem dL_law_1465 : decode cL_law 1465 = .ok (.aload_n 0, 1) := row_of dLc_1458 6 rfl rfl
theorem dL_law_1466 : decode cL_law 1466 = .ok (.iload 4, 2) := row_of dLc_1458 7 rfl rfl
theorem dL_law_1468 : decode cL_law 1468 = .ok (.iconst 3, 1) := row_of dLc_1458 8 rfl rfl
theorem dL_law_1469 : decode cL_law 1469 = .ok (.iadd, 1) := row_of dLc_1458 9 rfl rfl
theorem dL_law_1470 : decode cL_law 1470 = .ok (.iaload, 1) := row_of dLc_1458 10 rfl rfl
theorem dL_law_1471 : decode cL_law 1471 = .ok (.aload_n 0, 1) := row_of dLc_1458 11 rfl rfl
theorem dL_law_1472 : decode cL_law 1472 = .ok (.iload 4, 2) := row_of dLc_1458 12 rfl rfl
theorem dL_law_1474 : decode cL_law 1474 = .ok (.iconst 4, 1) := row_of dLc_1458 13 rfl rfl
theorem dL_law_1475 : decode cL_law 1475 = .ok (.iadd, 1) := row_of dLc_1458 14 rfl rfl
theorem dL_law_1476 : decode cL_law 1476 = .ok (.iaload, 1) := row_of dLc_1458 15 rfl rfl
theorem dL_law_1477 : decode cL_law 1477 = .ok (.invokevirtual 143, 3) := row_of dLc_1458 16 rfl rfl
theorem dL_law_1480 : decode cL_law 1480 = .ok (.pop, 1) := row_of dLc_1458 17 rfl rfl
theorem dL_law_1481 : decode cL_law 1481 = .ok (.goto 355, 3) := row_of dLc_1458 18 rfl rfl
theorem dL_law_1484 : decode cL_law 1484 = .ok (.aload_n 1, 1) := row_of dLc_1458 19 rfl rfl
theorem dL_law_1485 : decode cL_law 1485 = .ok (.aload_n 0, 1) := row_of dLc_1458 20 rfl rfl
theorem dL_law_1486 : decode cL_law 1486 = .ok (.iload 4, 2) := row_of dLc_1458 21 rfl rfl
theorem dL_law_1488 : decode cL_law 1488 = .ok (.iconst 1, 1) := row_of dLc_1458 22 rfl rfl
theorem dL_law_1489 : decode cL_law 1489 = .ok (.iadd, 1) := row_of dLc_1458 23 rfl rfl
theorem dL_law_1490 : decode cL_law 1490 = .ok (.iaload, 1) := row_of dLc_1458 24 rfl rfl
theorem dL_law_1491 : decode cL_law 1491 = .ok (.aload_n 0, 1) := row_of dLc_1458 25 rfl rfl
theorem dL_law_1492 : decode cL_law 1492 = .ok (.iload 4, 2) := row_of dLc_1458 26 rfl rfl
theorem dL_law_1494 : decode cL_law 1494 = .ok (.iconst 2, 1) := row_of dLc_1458 27 rfl rfl
theorem dL_law_1495 : decode cL_law 1495 = .ok (.iadd, 1) := row_of dLc_1458 28 rfl rfl
theorem dL_law_1496 : decode cL_law 1496 = .ok (.iaload, 1) := row_of dLc_1458 29 rfl rfl
theorem dL_law_1497 : decode cL_law 1497 = .ok (.invokevirtual 144, 3) := row_of dLc_1458 30 rfl rfl
theorem dL_law_1500 : decode cL_law 1500 = .ok (.pop, 1) := row_of dLc_1458 31 rfl rfl
theorem dL_law_1501 : decode cL_law 1501 = .ok (.aload_n 2, 1) := row_of dLc_1458 32 rfl rfl
theorem dL_law_1502 : decode cL_law 1502 = .ok (.aload_n 0, 1) := row_of dLc_1458 33 rfl rfl
theorem dL_law_1503 : decode cL_law 1503 = .ok (.iload 4, 2) := row_of dLc_1458 34 rfl rfl
theorem dL_law_1505 : decode cL_law 1505 = .ok (.iconst 1, 1) := row_of dLc_1458 35 rfl rfl
theorem dL_law_1506 : decode cL_law 1506 = .ok (.iadd, 1) := row_of dLc_1458 36 rfl rfl
theorem dL_law_1507 : decode cL_law 1507 = .ok (.iaload, 1) := row_of dLc_1458 37 rfl rfl
theorem dL_law_1508 : decode cL_law 1508 = .ok (.aload_n 0, 1) := row_of dLc_1458 38 rfl rfl
theorem dL_law_1509 : decode cL_law 1509 = .ok (.iload 4, 2) := row_of dLc_1458 39 rfl rfl
theorem dL_law_1511 : decode cL_law 1511 = .ok (.iconst 2, 1) := row_of dLc_1458 40 rfl rfl
theorem dL_law_1512 : decode cL_law 1512 = .ok (.iadd, 1) := row_of dLc_1458 41 rfl rfl
theorem dL_law_1513 : decode cL_law 1513 = .ok (.iaload, 1) := row_of dLc_1458 42 rfl rfl
theorem dL_law_1514 : decode cL_law 1514 = .ok (.invokevirtual 147, 3) := row_of dLc_1458 43 rfl rfl
theorem dL_law_1517 : decode cL_law 1517 = .ok (.pop, 1) := row_of dLc_1458 44 rfl rfl
theorem dL_law_1518 : decode cL_law 1518 = .ok (.goto 318, 3) := row_of dLc_1458 45 rfl rfl
theorem dL_law_1521 : decode cL_law 1521 = .ok (.aload_n 1, 1) := row_of dLc_1458 46 rfl rfl
theorem dL_law_1522 : decode cL_law 1522 = .ok (.aload_n 0, 1) := row_of dLc_1458 47 rfl rfl
theorem dL_law_1523 : decode cL_law 1523 = .ok (.iload 4, 2) := row_of dLc_1458 48 rfl rfl
theorem dL_law_1525 : decode cL_law 1525 = .ok (.iconst 1, 1) := row_of dLc_1458 49 rfl rfl
theorem dL_law_1526 : decode cL_law 1526 = .ok (.iadd, 1) := row_of dLc_1458 50 rfl rfl
theorem dL_law_1527 : decode cL_law 1527 = .ok (.iaload, 1) := row_of dLc_1458 51 rfl rfl
theorem dL_law_1528 : decode cL_law 1528 = .ok (.invokevirtual 148, 3) := row_of dLc_1458 52 rfl rfl
theorem dL_law_1531 : decode cL_law 1531 = .ok (.pop, 1) := row_of dLc_1458 53 rfl rfl
theorem dL_law_1532 : decode cL_law 1532 = .ok (.aload_n 2, 1) := row_of dLc_1458 54 rfl rfl
theorem dL_law_1533 : decode cL_law 1533 = .ok (.aload_n 0, 1) := row_of dLc_1458 55 rfl rfl
theorem dL_law_1534 : decode cL_law 1534 = .ok (.iload 4, 2) := row_of dLc_1458 56 rfl rfl
theorem dL_law_1536 : decode cL_law 1536 = .ok (.iconst 1, 1) := row_of dLc_1458 57 rfl rfl
theorem dL_law_1537 : decode cL_law 1537 = .ok (.iadd, 1) := row_of dLc_1458 58 rfl rfl
theorem dL_law_1538 : decode cL_law 1538 = .ok (.iaload, 1) := row_of dLc_1458 59 rfl rfl
theorem dL_law_1539 : decode cL_law 1539 = .ok (.invokevirtual 151, 3) := row_of dLc_1458 60 rfl rfl
theorem dL_law_1542 : decode cL_law 1542 = .ok (.pop, 1) := row_of dLc_1458 61 rfl rfl
theorem dL_law_1543 : decode cL_law 1543 = .ok (.goto 293, 3) := row_of dLc_1458 62 rfl rfl
theorem dL_law_1546 : decode cL_law 1546 = .ok (.aload_n 1, 1) := row_of dLc_1458 63 rfl rfl
theorem dLc_1547 : List.map (decode cL_law) [1547, 1548, 1550, 1551, 1552, 1553, 1554, 1556, 1557, 1558, 1559, 1560, 1562, 1563, 1564, 1565, 1568, 1569, 1570, 1571, 1573, 1574, 1575, 1576, 1577, 1579, 1580, 1581, 1582, 1583, 1585, 1586, 1587, 1588, 1591, 1592, 1595, 1596, 1597, 1599, 1600, 1601, 1602, 1603, 1605, 1606, 1607, 1608, 1609, 1611, 1612, 1613, 1614, 1615, 1617, 1618, 1619, 1621, 1622, 1623, 1624, 1625, 1628, 1629] = [.ok (.aload_n 0, 1), .ok (.iload 4, 2), .ok (.iconst 1, 1), .ok (.iadd, 1), .ok (.iaload, 1), .ok (.aload_n 0, 1), .ok (.iload 4, 2), .ok (.iconst 2, 1), .ok (.iadd, 1), .ok (.iaload, 1), .ok (.aload_n 0, 1), .ok (.iload 4, 2), .ok (.iconst 3, 1), .ok (.iadd, 1), .ok (.iaload, 1), .ok (.invokevirtual 152, 3), .ok (.pop2, 1), .ok (.aload_n 2, 1), .ok (.aload_n 0, 1), .ok (.iload 4, 2), .ok (.iconst 1, 1), .ok (.iadd, 1), .ok (.iaload, 1), .ok (.aload_n 0, 1), .ok (.iload 4, 2), .ok (.iconst 2, 1), .ok (.iadd, 1), .ok (.iaload, 1), .ok (.aload_n 0, 1), .ok (.iload 4, 2), .ok (.iconst 3, 1), .ok (.iadd, 1), .ok (.iaload, 1), .ok (.invokevirtual 156, 3), .ok (.pop2, 1), .ok (.goto 244, 3), .ok (.aload_n 1, 1), .ok (.aload_n 0, 1), .ok (.iload 4, 2), .ok (.iconst 1, 1), .ok (.iadd, 1), .ok (.iaload, 1), .ok (.aload_n 0, 1), .ok (.iload 4, 2), .ok (.iconst 2, 1), .ok (.iadd, 1), .ok (.iaload, 1), .ok (.aload_n 0, 1), .ok (.iload 4, 2), .ok (.iconst 3, 1), .ok (.iadd, 1), .ok (.iaload, 1), .ok (.i2l, 1), .ok (.bipush 32, 2), .ok (.lshl, 1), .ok (.aload_n 0, 1), .ok (.iload 4, 2), .ok (.iconst 4, 1), .ok (.iadd, 1), .ok (.iaload, 1), .ok (.i2l, 1), .ok (.ldc2_w 157, 3), .ok (.land, 1), .ok (.lor, 1)] := wk_map (t := [(1547, .aload_n 0, 1), (1548, .iload 4, 2), (1550, .iconst 1, 1), (1551, .iadd, 1), (1552, .iaload, 1), (1553, .aload_n 0, 1), (1554, .iload 4, 2), (1556, .iconst 2, 1), (1557, .iadd, 1), (1558, .iaload, 1), (1559, .aload_n 0, 1), (1560, .iload 4, 2), (1562, .iconst 3, 1), (1563, .iadd, 1), (1564, .iaload, 1), (1565, .invokevirtual 152, 3), (1568, .pop2, 1), (1569, .aload_n 2, 1), (1570, .aload_n 0, 1), (1571, .iload 4, 2), (1573, .iconst 1, 1), (1574, .iadd, 1), (1575, .iaload, 1), (1576, .aload_n 0, 1), (1577, .iload 4, 2), (1579, .iconst 2, 1), (1580, .iadd, 1), (1581, .iaload, 1), (1582, .aload_n 0, 1), (1583, .iload 4, 2), (1585, .iconst 3, 1), (1586, .iadd, 1), (1587, .iaload, 1), (1588, .invokevirtual 156, 3), (1591, .pop2, 1), (1592, .goto 244, 3), (1595, .aload_n 1, 1), (1596, .aload_n 0, 1), (1597, .iload 4, 2), (1599, .iconst 1, 1), (1600, .iadd, 1), (1601, .iaload, 1), (1602, .aload_n 0, 1), (1603, .iload 4, 2), (1605, .iconst 2, 1), (1606, .iadd, 1), (1607, .iaload, 1), (1608, .aload_n 0, 1), (1609, .iload 4, 2), (1611, .iconst 3, 1), (1612, .iadd, 1), (1613, .iaload, 1), (1614, .i2l, 1), (1615, .bipush 32, 2), (1617, .lshl, 1), (1618, .aload_n 0, 1), (1619, .iload 4, 2), (1621, .iconst 4, 1), (1622, .iadd, 1), (1623, .iaload, 1), (1624, .i2l, 1), (1625, .ldc2_w 157, 3), (1628, .land, 1), (1629, .lor, 1)]) (by decide +kernel)
theorem dL_law_1547 : decode cL_law 1547 = .ok (.aload_n 0, 1) := row_of dLc_1547 0 rfl rfl
theorem dL_law_1548 : decode cL_law 1548 = .ok (.iload 4, 2) := row_of dLc_1547 1 rfl rfl
theorem dL_law_1550 : decode cL_law 1550 = .ok (.iconst 1, 1) := row_of dLc_1547 2 rfl rfl
theorem dL_law_1551 : decode cL_law 1551 = .ok (.iadd, 1) := row_of dLc_1547 3 rfl rfl
theorem dL_law_1552 : decode cL_law 1552 = .ok (.iaload, 1) := row_of dLc_1547 4 rfl rfl
theorem dL_law_1553 : decode cL_law 1553 = .ok (.aload_n 0, 1) := row_of dLc_1547 5 rfl rfl
theorem dL_law_1554 : decode cL_law 1554 = .ok (.iload 4, 2) := row_of dLc_1547 6 rfl rfl
theorem dL_law_1556 : decode cL_law 1556 = .ok (.iconst 2, 1) := row_of dLc_1547 7 rfl rfl
theorem dL_law_1557 : decode cL_law 1557 = .ok (.iadd, 1) := row_of dLc_1547 8 rfl rfl
theorem dL_law_1558 : decode cL_law 1558 = .ok (.iaload, 1) := row_of dLc_1547 9 rfl rfl
theorem dL_law_1559 : decode cL_law 1559 = .ok (.aload_n 0, 1) := row_of dLc_1547 10 rfl rfl
theorem dL_law_1560 : decode cL_law 1560 = .ok (.iload 4, 2) := row_of dLc_1547 11 rfl rfl
theorem dL_law_1562 : decode cL_law 1562 = .ok (.iconst 3, 1) := row_of dLc_1547 12 rfl rfl
theorem dL_law_1563 : decode cL_law 1563 = .ok (.iadd, 1) := row_of dLc_1547 13 rfl rfl
theorem dL_law_1564 : decode cL_law 1564 = .ok (.iaload, 1) := row_of dLc_1547 14 rfl rfl
theorem dL_law_1565 : decode cL_law 1565 = .ok (.invokevirtual 152, 3) := row_of dLc_1547 15 rfl rfl
theorem dL_law_1568 : decode cL_law 1568 = .ok (.pop2, 1) := row_of dLc_1547 16 rfl rfl
theorem dL_law_1569 : decode cL_law 1569 = .ok (.aload_n 2, 1) := row_of dLc_1547 17 rfl rfl
theorem dL_law_1570 : decode cL_law 1570 = .ok (.aload_n 0, 1) := row_of dLc_1547 18 rfl rfl
theorem dL_law_1571 : decode cL_law 1571 = .ok (.iload 4, 2) := row_of dLc_1547 19 rfl rfl
theorem dL_law_1573 : decode cL_law 1573 = .ok (.iconst 1, 1) := row_of dLc_1547 20 rfl rfl
theorem dL_law_1574 : decode cL_law 1574 = .ok (.iadd, 1) := row_of dLc_1547 21 rfl rfl
theorem dL_law_1575 : decode cL_law 1575 = .ok (.iaload, 1) := row_of dLc_1547 22 rfl rfl
theorem dL_law_1576 : decode cL_law 1576 = .ok (.aload_n 0, 1) := row_of dLc_1547 23 rfl rfl
theorem dL_law_1577 : decode cL_law 1577 = .ok (.iload 4, 2) := row_of dLc_1547 24 rfl rfl
theorem dL_law_1579 : decode cL_law 1579 = .ok (.iconst 2, 1) := row_of dLc_1547 25 rfl rfl
theorem dL_law_1580 : decode cL_law 1580 = .ok (.iadd, 1) := row_of dLc_1547 26 rfl rfl
theorem dL_law_1581 : decode cL_law 1581 = .ok (.iaload, 1) := row_of dLc_1547 27 rfl rfl
theorem dL_law_1582 : decode cL_law 1582 = .ok (.aload_n 0, 1) := row_of dLc_1547 28 rfl rfl
theorem dL_law_1583 : decode cL_law 1583 = .ok (.iload 4, 2) := row_of dLc_1547 29 rfl rfl
theorem dL_law_1585 : decode cL_law 1585 = .ok (.iconst 3, 1) := row_of dLc_1547 30 rfl rfl
theorem dL_law_1586 : decode cL_law 1586 = .ok (.iadd, 1) := row_of dLc_1547 31 rfl rfl
theorem dL_law_1587 : decode cL_law 1587 = .ok (.iaload, 1) := row_of dLc_1547 32 rfl rfl
theorem dL_law_1588 : decode cL_law 1588 = .ok (.invokevirtual 156, 3) := row_of dLc_1547 33 rfl rfl
theorem dL_law_1591 : decode cL_law 1591 = .ok (.pop2, 1) := row_of dLc_1547 34 rfl rfl
theorem dL_law_1592 : decode cL_law 1592 = .ok (.goto 244, 3) := row_of dLc_1547 35 rfl rfl
theorem dL_law_1595 : decode cL_law 1595 = .ok (.aload_n 1, 1) := row_of dLc_1547 36 rfl rfl
theorem dL_law_1596 : decode cL_law 1596 = .ok (.aload_n 0, 1) := row_of dLc_1547 37 rfl rfl
theorem dL_law_1597 : decode cL_law 1597 = .ok (.iload 4, 2) := row_of dLc_1547 38 rfl rfl
theorem dL_law_1599 : decode cL_law 1599 = .ok (.iconst 1, 1) := row_of dLc_1547 39 rfl rfl
theorem dL_law_1600 : decode cL_law 1600 = .ok (.iadd, 1) := row_of dLc_1547 40 rfl rfl
theorem dL_law_1601 : decode cL_law 1601 = .ok (.iaload, 1) := row_of dLc_1547 41 rfl rfl
theorem dL_law_1602 : decode cL_law 1602 = .ok (.aload_n 0, 1) := row_of dLc_1547 42 rfl rfl
theorem dL_law_1603 : decode cL_law 1603 = .ok (.iload 4, 2) := row_of dLc_1547 43 rfl rfl
theorem dL_law_1605 : decode cL_law 1605 = .ok (.iconst 2, 1) := row_of dLc_1547 44 rfl rfl
theorem dL_law_1606 : decode cL_law 1606 = .ok (.iadd, 1) := row_of dLc_1547 45 rfl rfl
theorem dL_law_1607 : decode cL_law 1607 = .ok (.iaload, 1) := row_of dLc_1547 46 rfl rfl
theorem dL_law_1608 : decode cL_law 1608 = .ok (.aload_n 0, 1) := row_of dLc_1547 47 rfl rfl
theorem dL_law_1609 : decode cL_law 1609 = .ok (.iload 4, 2) := row_of dLc_1547 48 rfl rfl
theorem dL_law_1611 : decode cL_law 1611 = .ok (.iconst 3, 1) := row_of dLc_1547 49 rfl rfl
theorem dL_law_1612 : decode cL_law 1612 = .ok (.iadd, 1) := row_of dLc_1547 50 rfl rfl
theorem dL_law_1613 : decode cL_law 1613 = .ok (.iaload, 1) := row_of dLc_1547 51 rfl rfl
theorem dL_law_1614 : decode cL_law 1614 = .ok (.i2l, 1) := row_of dLc_1547 52 rfl rfl
theorem dL_law_1615 : decode cL_law 1615 = .ok (.bipush 32, 2) := row_of dLc_1547 53 rfl rfl
theorem dL_law_1617 : decode cL_law 1617 = .ok (.lshl, 1) := row_of dLc_1547 54 rfl rfl
theorem dL_law_1618 : decode cL_law 1618 = .ok (.aload_n 0, 1) := row_of dLc_1547 55 rfl rfl
theorem dL_law_1619 : decode cL_law 1619 = .ok (.iload 4, 2) := row_of dLc_1547 56 rfl rfl
theorem dL_law_1621 : decode cL_law 1621 = .ok (.iconst 4, 1) := row_of dLc_1547 57 rfl rfl
theorem dL_law_1622 : decode cL_law 1622 = .ok (.iadd, 1) := row_of dLc_1547 58 rfl rfl
theorem dL_law_1623 : decode cL_law 1623 = .ok (.iaload, 1) := row_of dLc_1547 59 rfl rfl
theorem dL_law_1624 : decode cL_law 1624 = .ok (.i2l, 1) := row_of dLc_1547 60 rfl rfl
theorem dL_law_1625 : decode cL_law 1625 = .ok (.ldc2_w 157, 3) := row_of dLc_1547 61 rfl rfl
theorem dL_law_1628 : decode cL_law 1628 = .ok (.land, 1) := row_of dLc_1547 62 rfl rfl
theorem dL_law_1629 : decode cL_law 1629 = .ok (.lor, 1) := row_of dLc_1547 63 rfl rfl
theorem dLc_1630 : List.map (decode cL_law) [1630, 1633, 1634, 1635, 1636, 1638, 1639, 1640, 1641, 1642, 1644, 1645, 1646, 1647, 1648, 1650, 1651, 1652, 1653, 1654, 1656, 1657, 1658, 1660, 1661, 1662, 1663, 1664, 1667, 1668, 1669, 1672, 1673, 1676, 1677, 1678, 1680, 1681, 1682, 1683, 1684, 1686, 1687, 1688, 1689, 1690, 1692, 1693, 1694, 1695, 1696, 1698, 1699, 1700, 1701, 1704, 1705, 1706, 1707, 1709, 1710, 1711, 1712, 1713] = [.ok (.invokevirtual 159, 3), .ok (.pop, 1), .ok (.aload_n 2, 1), .ok (.aload_n 0, 1), .ok (.iload 4, 2), .ok (.iconst 1, 1), .ok (.iadd, 1), .ok (.iaload, 1), .ok (.aload_n 0, 1), .ok (.iload 4, 2), .ok (.iconst 2, 1), .ok (.iadd, 1), .ok (.iaload, 1), .ok (.aload_n 0, 1), .ok (.iload 4, 2), .ok (.iconst 3, 1), .ok (.iadd, 1), .ok (.iaload, 1), .ok (.i2l, 1), .ok (.bipush 32, 2), .ok (.lshl, 1), .ok (.aload_n 0, 1), .ok (.iload 4, 2), .ok (.iconst 4, 1), .ok (.iadd, 1), .ok (.iaload, 1), .ok (.i2l, 1), .ok (.ldc2_w 157, 3), .ok (.land, 1), .ok (.lor, 1), .ok (.invokevirtual 163, 3), .ok (.pop, 1), .ok (.goto 163, 3), .ok (.aload_n 1, 1), .ok (.aload_n 0, 1), .ok (.iload 4, 2), .ok (.iconst 1, 1), .ok (.iadd, 1), .ok (.iaload, 1), .ok (.aload_n 0, 1), .ok (.iload 4, 2), .ok (.iconst 2, 1), .ok (.iadd, 1), .ok (.iaload, 1), .ok (.aload_n 0, 1), .ok (.iload 4, 2), .ok (.iconst 3, 1), .ok (.iadd, 1), .ok (.iaload, 1), .ok (.aload_n 0, 1), .ok (.iload 4, 2), .ok (.iconst 4, 1), .ok (.iadd, 1), .ok (.iaload, 1), .ok (.invokevirtual 164, 3), .ok (.pop, 1), .ok (.aload_n 2, 1), .ok (.aload_n 0, 1), .ok (.iload 4, 2), .ok (.iconst 1, 1), .ok (.iadd, 1), .ok (.iaload, 1), .ok (.aload_n 0, 1), .ok (.iload 4, 2)] := wk_map (t := [(1630, .invokevirtual 159, 3), (1633, .pop, 1), (1634, .aload_n 2, 1), (1635, .aload_n 0, 1), (1636, .iload 4, 2), (1638, .iconst 1, 1), (1639, .iadd, 1), (1640, .iaload, 1), (1641, .aload_n 0, 1), (1642, .iload 4, 2), (1644, .iconst 2, 1), (1645, .iadd, 1), (1646, .iaload, 1), (1647, .aload_n 0, 1), (1648, .iload 4, 2), (1650, .iconst 3, 1), (1651, .iadd, 1), (1652, .iaload, 1), (1653, .i2l, 1), (1654, .bipush 32, 2), (1656, .lshl, 1), (1657, .aload_n 0, 1), (1658, .iload 4, 2), (1660, .iconst 4, 1), (1661, .iadd, 1), (1662, .iaload, 1), (1663, .i2l, 1), (1664, .ldc2_w 157, 3), (1667, .land, 1), (1668, .lor, 1), (1669, .invokevirtual 163, 3), (1672, .pop, 1), (1673, .goto 163, 3), (1676, .aload_n 1, 1), (1677, .aload_n 0, 1), (1678, .iload 4, 2), (1680, .iconst 1, 1), (1681, .iadd, 1), (1682, .iaload, 1), (1683, .aload_n 0, 1), (1684, .iload 4, 2), (1686, .iconst 2, 1), (1687, .iadd, 1), (1688, .iaload, 1), (1689, .aload_n 0, 1), (1690, .iload 4, 2), (1692, .iconst 3, 1), (1693, .iadd, 1), (1694, .iaload, 1), (1695, .aload_n 0, 1), (1696, .iload 4, 2), (1698, .iconst 4, 1), (1699, .iadd, 1), (1700, .iaload, 1), (1701, .invokevirtual 164, 3), (1704, .pop, 1), (1705, .aload_n 2, 1), (1706, .aload_n 0, 1), (1707, .iload 4, 2), (1709, .iconst 1, 1), (1710, .iadd, 1), (1711, .iaload, 1), (1712, .aload_n 0, 1), (1713, .iload 4, 2)]) (by decide +kernel)
theorem dL_law_1630 : decode cL_law 1630 = .ok (.invokevirtual 159, 3) := row_of dLc_1630 0 rfl rfl
theorem dL_law_1633 : decode cL_law 1633 = .ok (.pop, 1) := row_of dLc_1630 1 rfl rfl
theorem dL_law_1634 : decode cL_law 1634 = .ok (.aload_n 2, 1) := row_of dLc_1630 2 rfl rfl
theorem dL_law_1635 : decode cL_law 1635 = .ok (.aload_n 0, 1) := row_of dLc_1630 3 rfl rfl
theorem dL_law_1636 : decode cL_law 1636 = .ok (.iload 4, 2) := row_of dLc_1630 4 rfl rfl
theorem dL_law_1638 : decode cL_law 1638 = .ok (.iconst 1, 1) := row_of dLc_1630 5 rfl rfl
theorem dL_law_1639 : decode cL_law 1639 = .ok (.iadd, 1) := row_of dLc_1630 6 rfl rfl
theorem dL_law_1640 : decode cL_law 1640 = .ok (.iaload, 1) := row_of dLc_1630 7 rfl rfl
theorem dL_law_1641 : decode cL_law 1641 = .ok (.aload_n 0, 1) := row_of dLc_1630 8 rfl rfl
theorem dL_law_1642 : decode cL_law 1642 = .ok (.iload 4, 2) := row_of dLc_1630 9 rfl rfl
theorem dL_law_1644 : decode cL_law 1644 = .ok (.iconst 2, 1) := row_of dLc_1630 10 rfl rfl
theorem dL_law_1645 : decode cL_law 1645 = .ok (.iadd, 1) := row_of dLc_1630 11 rfl rfl
theorem dL_law_1646 : decode cL_law 1646 = .ok (.iaload, 1) := row_of dLc_1630 12 rfl rfl
theorem dL_law_1647 : decode cL_law 1647 = .ok (.aload_n 0, 1) := row_of dLc_1630 13 rfl rfl
theorem dL_law_1648 : decode cL_law 1648 = .ok (.iload 4, 2) := row_of dLc_1630 14 rfl rfl
theorem dL_law_1650 : decode cL_law 1650 = .ok (.iconst 3, 1) := row_of dLc_1630 15 rfl rfl
theorem dL_law_1651 : decode cL_law 1651 = .ok (.iadd, 1) := row_of dLc_1630 16 rfl rfl
theorem dL_law_1652 : decode cL_law 1652 = .ok (.iaload, 1) := row_of dLc_1630 17 rfl rfl
theorem dL_law_1653 : decode cL_law 1653 = .ok (.i2l, 1) := row_of dLc_1630 18 rfl rfl
theorem dL_law_1654 : decode cL_law 1654 = .ok (.bipush 32, 2) := row_of dLc_1630 19 rfl rfl
theorem dL_law_1656 : decode cL_law 1656 = .ok (.lshl, 1) := row_of dLc_1630 20 rfl rfl
theorem dL_law_1657 : decode cL_law 1657 = .ok (.aload_n 0, 1) := row_of dLc_1630 21 rfl rfl
theorem dL_law_1658 : decode cL_law 1658 = .ok (.iload 4, 2) := row_of dLc_1630 22 rfl rfl
theorem dL_law_1660 : decode cL_law 1660 = .ok (.iconst 4, 1) := row_of dLc_1630 23 rfl rfl
theorem dL_law_1661 : decode cL_law 1661 = .ok (.iadd, 1) := row_of dLc_1630 24 rfl rfl
theorem dL_law_1662 : decode cL_law 1662 = .ok (.iaload, 1) := row_of dLc_1630 25 rfl rfl
theorem dL_law_1663 : decode cL_law 1663 = .ok (.i2l, 1) := row_of dLc_1630 26 rfl rfl
theorem dL_law_1664 : decode cL_law 1664 = .ok (.ldc2_w 157, 3) := row_of dLc_1630 27 rfl rfl
theorem dL_law_1667 : decode cL_law 1667 = .ok (.land, 1) := row_of dLc_1630 28 rfl rfl
theorem dL_law_1668 : decode cL_law 1668 = .ok (.lor, 1) := row_of dLc_1630 29 rfl rfl
theorem dL_law_1669 : decode cL_law 1669 = .ok (.invokevirtual 163, 3) := row_of dLc_1630 30 rfl rfl
theorem dL_law_1672 : decode cL_law 1672 = .ok (.pop, 1) := row_of dLc_1630 31 rfl rfl
theorem dL_law_1673 : decode cL_law 1673 = .ok (.goto 163, 3) := row_of dLc_1630 32 rfl rfl
theorem dL_law_1676 : decode cL_law 1676 = .ok (.aload_n 1, 1) := row_of dLc_1630 33 rfl rfl
theorem dL_law_1677 : decode cL_law 1677 = .ok (.aload_n 0, 1) := row_of dLc_1630 34 rfl rfl
theorem dL_law_1678 : decode cL_law 1678 = .ok (.iload 4, 2) := row_of dLc_1630 35 rfl rfl
theorem dL_law_1680 : decode cL_law 1680 = .ok (.iconst 1, 1) := row_of dLc_1630 36 rfl rfl
theorem dL_law_1681 : decode cL_law 1681 = .ok (.iadd, 1) := row_of dLc_1630 37 rfl rfl
theorem dL_law_1682 : decode cL_law 1682 = .ok (.iaload, 1) := row_of dLc_1630 38 rfl rfl
theorem dL_law_1683 : decode cL_law 1683 = .ok (.aload_n 0, 1) := row_of dLc_1630 39 rfl rfl
theorem dL_law_1684 : decode cL_law 1684 = .ok (.iload 4, 2) := row_of dLc_1630 40 rfl rfl
theorem dL_law_1686 : decode cL_law 1686 = .ok (.iconst 2, 1) := row_of dLc_1630 41 rfl rfl
theorem dL_law_1687 : decode cL_law 1687 = .ok (.iadd, 1) := row_of dLc_1630 42 rfl rfl
theorem dL_law_1688 : decode cL_law 1688 = .ok (.iaload, 1) := row_of dLc_1630 43 rfl rfl
theorem dL_law_1689 : decode cL_law 1689 = .ok (.aload_n 0, 1) := row_of dLc_1630 44 rfl rfl
theorem dL_law_1690 : decode cL_law 1690 = .ok (.iload 4, 2) := row_of dLc_1630 45 rfl rfl
theorem dL_law_1692 : decode cL_law 1692 = .ok (.iconst 3, 1) := row_of dLc_1630 46 rfl rfl
theorem dL_law_1693 : decode cL_law 1693 = .ok (.iadd, 1) := row_of dLc_1630 47 rfl rfl
theorem dL_law_1694 : decode cL_law 1694 = .ok (.iaload, 1) := row_of dLc_1630 48 rfl rfl
theorem dL_law_1695 : decode cL_law 1695 = .ok (.aload_n 0, 1) := row_of dLc_1630 49 rfl rfl
theorem dL_law_1696 : decode cL_law 1696 = .ok (.iload 4, 2) := row_of dLc_1630 50 rfl rfl
theorem dL_law_1698 : decode cL_law 1698 = .ok (.iconst 4, 1) := row_of dLc_1630 51 rfl rfl
theorem dL_law_1699 : decode cL_law 1699 = .ok (.iadd, 1) := row_of dLc_1630 52 rfl rfl
theorem dL_law_1700 : decode cL_law 1700 = .ok (.iaload, 1) := row_of dLc_1630 53 rfl rfl
theorem dL_law_1701 : decode cL_law 1701 = .ok (.invokevirtual 164, 3) := row_of dLc_1630 54 rfl rfl
theorem dL_law_1704 : decode cL_law 1704 = .ok (.pop, 1) := row_of dLc_1630 55 rfl rfl
theorem dL_law_1705 : decode cL_law 1705 = .ok (.aload_n 2, 1) := row_of dLc_1630 56 rfl rfl
theorem dL_law_1706 : decode cL_law 1706 = .ok (.aload_n 0, 1) := row_of dLc_1630 57 rfl rfl
theorem dL_law_1707 : decode cL_law 1707 = .ok (.iload 4, 2) := row_of dLc_1630 58 rfl rfl
theorem dL_law_1709 : decode cL_law 1709 = .ok (.iconst 1, 1) := row_of dLc_1630 59 rfl rfl
theorem dL_law_1710 : decode cL_law 1710 = .ok (.iadd, 1) := row_of dLc_1630 60 rfl rfl
theorem dL_law_1711 : decode cL_law 1711 = .ok (.iaload, 1) := row_of dLc_1630 61 rfl rfl
theorem dL_law_1712 : decode cL_law 1712 = .ok (.aload_n 0, 1) := row_of dLc_1630 62 rfl rfl
theorem dL_law_1713 : decode cL_law 1713 = .ok (.iload 4, 2) := row_of dLc_1630 63 rfl rfl
theorem dLc_1715 : List.map (decode cL_law) [1715, 1716, 1717, 1718, 1719, 1721, 1722, 1723, 1724, 1725, 1727, 1728, 1729, 1730, 1733, 1734, 1737, 1738, 1739, 1741, 1742, 1743, 1744, 1745, 1747, 1748, 1749, 1750, 1753, 1754, 1755, 1757, 1758, 1759, 1760, 1761, 1763, 1764, 1765, 1766, 1769, 1772, 1773, 1774, 1775, 1776, 1778, 1779, 1780, 1781, 1782, 1784, 1785, 1786, 1787, 1790, 1791, 1792, 1793, 1795, 1796, 1797, 1798, 1799] = [.ok (.iconst 2, 1), .ok (.iadd, 1), .ok (.iaload, 1), .ok (.aload_n 0, 1), .ok (.iload 4, 2), .ok (.iconst 3, 1), .ok (.iadd, 1), .ok (.iaload, 1), .ok (.aload_n 0, 1), .ok (.iload 4, 2), .ok (.iconst 4, 1), .ok (.iadd, 1), .ok (.iaload, 1), .ok (.invokevirtual 168, 3), .ok (.pop, 1), .ok (.goto 102, 3), .ok (.aload_n 1, 1), .ok (.aload_n 0, 1), .ok (.iload 4, 2), .ok (.iconst 1, 1), .ok (.iadd, 1), .ok (.iaload, 1), .ok (.aload_n 0, 1), .ok (.iload 4, 2), .ok (.iconst 2, 1), .ok (.iadd, 1), .ok (.iaload, 1), .ok (.invokevirtual 169, 3), .ok (.aload_n 2, 1), .ok (.aload_n 0, 1), .ok (.iload 4, 2), .ok (.iconst 1, 1), .ok (.iadd, 1), .ok (.iaload, 1), .ok (.aload_n 0, 1), .ok (.iload 4, 2), .ok (.iconst 2, 1), .ok (.iadd, 1), .ok (.iaload, 1), .ok (.invokevirtual 172, 3), .ok (.if_icmp .eq 67, 3), .ok (.iconst 0, 1), .ok (.ireturn, 1), .ok (.aload_n 1, 1), .ok (.aload_n 0, 1), .ok (.iload 4, 2), .ok (.iconst 1, 1), .ok (.iadd, 1), .ok (.iaload, 1), .ok (.aload_n 0, 1), .ok (.iload 4, 2), .ok (.iconst 2, 1), .ok (.iadd, 1), .ok (.iaload, 1), .ok (.invokevirtual 173, 3), .ok (.pop, 1), .ok (.aload_n 2, 1), .ok (.aload_n 0, 1), .ok (.iload 4, 2), .ok (.iconst 1, 1), .ok (.iadd, 1), .ok (.iaload, 1), .ok (.aload_n 0, 1), .ok (.iload 4, 2)] := wk_map (t := [(1715, .iconst 2, 1), (1716, .iadd, 1), (1717, .iaload, 1), (1718, .aload_n 0, 1), (1719, .iload 4, 2), (1721, .iconst 3, 1), (1722, .iadd, 1), (1723, .iaload, 1), (1724, .aload_n 0, 1), (1725, .iload 4, 2), (1727, .iconst 4, 1), (1728, .iadd, 1), (1729, .iaload, 1), (1730, .invokevirtual 168, 3), (1733, .pop, 1), (1734, .goto 102, 3), (1737, .aload_n 1, 1), (1738, .aload_n 0, 1), (1739, .iload 4, 2), (1741, .iconst 1, 1), (1742, .iadd, 1), (1743, .iaload, 1), (1744, .aload_n 0, 1), (1745, .iload 4, 2), (1747, .iconst 2, 1), (1748, .iadd, 1), (1749, .iaload, 1), (1750, .invokevirtual 169, 3), (1753, .aload_n 2, 1), (1754, .aload_n 0, 1), (1755, .iload 4, 2), (1757, .iconst 1, 1), (1758, .iadd, 1), (1759, .iaload, 1), (1760, .aload_n 0, 1), (1761, .iload 4, 2), (1763, .iconst 2, 1), (1764, .iadd, 1), (1765, .iaload, 1), (1766, .invokevirtual 172, 3), (1769, .if_icmp .eq 67, 3), (1772, .iconst 0, 1), (1773, .ireturn, 1), (1774, .aload_n 1, 1), (1775, .aload_n 0, 1), (1776, .iload 4, 2), (1778, .iconst 1, 1), (1779, .iadd, 1), (1780, .iaload, 1), (1781, .aload_n 0, 1), (1782, .iload 4, 2), (1784, .iconst 2, 1), (1785, .iadd, 1), (1786, .iaload, 1), (1787, .invokevirtual 173, 3), (1790, .pop, 1), (1791, .aload_n 2, 1), (1792, .aload_n 0, 1), (1793, .iload 4, 2), (1795, .iconst 1, 1), (1796, .iadd, 1), (1797, .iaload, 1), (1798, .aload_n 0, 1), (1799, .iload 4, 2)]) (by decide +kernel)
theorem dL_law_1715 : decode cL_law 1715 = .ok (.iconst 2, 1) := row_of dLc_1715 0 rfl rfl
theorem dL_law_1716 : decode cL_law 1716 = .ok (.iadd, 1) := row_of dLc_1715 1 rfl rfl
theorem dL_law_1717 : decode cL_law 1717 = .ok (.iaload, 1) := row_of dLc_1715 2 rfl rfl
theorem dL_law_1718 : decode cL_law 1718 = .ok (.aload_n 0, 1) := row_of dLc_1715 3 rfl rfl
theorem dL_law_1719 : decode cL_law 1719 = .ok (.iload 4, 2) := row_of dLc_1715 4 rfl rfl
theorem dL_law_1721 : decode cL_law 1721 = .ok (.iconst 3, 1) := row_of dLc_1715 5 rfl rfl
theorem dL_law_1722 : decode cL_law 1722 = .ok (.iadd, 1) := row_of dLc_1715 6 rfl rfl
theorem dL_law_1723 : decode cL_law 1723 = .ok (.iaload, 1) := row_of dLc_1715 7 rfl rfl
theorem dL_law_1724 : decode cL_law 1724 = .ok (.aload_n 0, 1) := row_of dLc_1715 8 rfl rfl
theorem dL_law_1725 : decode cL_law 1725 = .ok (.iload 4, 2) := row_of dLc_1715 9 rfl rfl
theorem dL_law_1727 : decode cL_law 1727 = .ok (.iconst 4, 1) := row_of dLc_1715 10 rfl rfl
theorem dL_law_1728 : decode cL_law 1728 = .ok (.iadd, 1) := row_of dLc_1715 11 rfl rfl
theorem dL_law_1729 : decode cL_law 1729 = .ok (.iaload, 1) := row_of dLc_1715 12 rfl rfl
theorem dL_law_1730 : decode cL_law 1730 = .ok (.invokevirtual 168, 3) := row_of dLc_1715 13 rfl rfl
theorem dL_law_1733 : decode cL_law 1733 = .ok (.pop, 1) := row_of dLc_1715 14 rfl rfl
theorem dL_law_1734 : decode cL_law 1734 = .ok (.goto 102, 3) := row_of dLc_1715 15 rfl rfl
theorem dL_law_1737 : decode cL_law 1737 = .ok (.aload_n 1, 1) := row_of dLc_1715 16 rfl rfl
theorem dL_law_1738 : decode cL_law 1738 = .ok (.aload_n 0, 1) := row_of dLc_1715 17 rfl rfl
theorem dL_law_1739 : decode cL_law 1739 = .ok (.iload 4, 2) := row_of dLc_1715 18 rfl rfl
theorem dL_law_1741 : decode cL_law 1741 = .ok (.iconst 1, 1) := row_of dLc_1715 19 rfl rfl
theorem dL_law_1742 : decode cL_law 1742 = .ok (.iadd, 1) := row_of dLc_1715 20 rfl rfl
theorem dL_law_1743 : decode cL_law 1743 = .ok (.iaload, 1) := row_of dLc_1715 21 rfl rfl
theorem dL_law_1744 : decode cL_law 1744 = .ok (.aload_n 0, 1) := row_of dLc_1715 22 rfl rfl
theorem dL_law_1745 : decode cL_law 1745 = .ok (.iload 4, 2) := row_of dLc_1715 23 rfl rfl
theorem dL_law_1747 : decode cL_law 1747 = .ok (.iconst 2, 1) := row_of dLc_1715 24 rfl rfl
theorem dL_law_1748 : decode cL_law 1748 = .ok (.iadd, 1) := row_of dLc_1715 25 rfl rfl
theorem dL_law_1749 : decode cL_law 1749 = .ok (.iaload, 1) := row_of dLc_1715 26 rfl rfl
theorem dL_law_1750 : decode cL_law 1750 = .ok (.invokevirtual 169, 3) := row_of dLc_1715 27 rfl rfl
theorem dL_law_1753 : decode cL_law 1753 = .ok (.aload_n 2, 1) := row_of dLc_1715 28 rfl rfl
theorem dL_law_1754 : decode cL_law 1754 = .ok (.aload_n 0, 1) := row_of dLc_1715 29 rfl rfl
theorem dL_law_1755 : decode cL_law 1755 = .ok (.iload 4, 2) := row_of dLc_1715 30 rfl rfl
theorem dL_law_1757 : decode cL_law 1757 = .ok (.iconst 1, 1) := row_of dLc_1715 31 rfl rfl
theorem dL_law_1758 : decode cL_law 1758 = .ok (.iadd, 1) := row_of dLc_1715 32 rfl rfl
theorem dL_law_1759 : decode cL_law 1759 = .ok (.iaload, 1) := row_of dLc_1715 33 rfl rfl
theorem dL_law_1760 : decode cL_law 1760 = .ok (.aload_n 0, 1) := row_of dLc_1715 34 rfl rfl
theorem dL_law_1761 : decode cL_law 1761 = .ok (.iload 4, 2) := row_of dLc_1715 35 rfl rfl
theorem dL_law_1763 : decode cL_law 1763 = .ok (.iconst 2, 1) := row_of dLc_1715 36 rfl rfl
theorem dL_law_1764 : decode cL_law 1764 = .ok (.iadd, 1) := row_of dLc_1715 37 rfl rfl
theorem dL_law_1765 : decode cL_law 1765 = .ok (.iaload, 1) := row_of dLc_1715 38 rfl rfl
theorem dL_law_1766 : decode cL_law 1766 = .ok (.invokevirtual 172, 3) := row_of dLc_1715 39 rfl rfl
theorem dL_law_1769 : decode cL_law 1769 = .ok (.if_icmp .eq 67, 3) := row_of dLc_1715 40 rfl rfl
theorem dL_law_1772 : decode cL_law 1772 = .ok (.iconst 0, 1) := row_of dLc_1715 41 rfl rfl
theorem dL_law_1773 : decode cL_law 1773 = .ok (.ireturn, 1) := row_of dLc_1715 42 rfl rfl
theorem dL_law_1774 : decode cL_law 1774 = .ok (.aload_n 1, 1) := row_of dLc_1715 43 rfl rfl
theorem dL_law_1775 : decode cL_law 1775 = .ok (.aload_n 0, 1) := row_of dLc_1715 44 rfl rfl
theorem dL_law_1776 : decode cL_law 1776 = .ok (.iload 4, 2) := row_of dLc_1715 45 rfl rfl
theorem dL_law_1778 : decode cL_law 1778 = .ok (.iconst 1, 1) := row_of dLc_1715 46 rfl rfl
theorem dL_law_1779 : decode cL_law 1779 = .ok (.iadd, 1) := row_of dLc_1715 47 rfl rfl
theorem dL_law_1780 : decode cL_law 1780 = .ok (.iaload, 1) := row_of dLc_1715 48 rfl rfl
theorem dL_law_1781 : decode cL_law 1781 = .ok (.aload_n 0, 1) := row_of dLc_1715 49 rfl rfl
theorem dL_law_1782 : decode cL_law 1782 = .ok (.iload 4, 2) := row_of dLc_1715 50 rfl rfl
theorem dL_law_1784 : decode cL_law 1784 = .ok (.iconst 2, 1) := row_of dLc_1715 51 rfl rfl
theorem dL_law_1785 : decode cL_law 1785 = .ok (.iadd, 1) := row_of dLc_1715 52 rfl rfl
theorem dL_law_1786 : decode cL_law 1786 = .ok (.iaload, 1) := row_of dLc_1715 53 rfl rfl
theorem dL_law_1787 : decode cL_law 1787 = .ok (.invokevirtual 173, 3) := row_of dLc_1715 54 rfl rfl
theorem dL_law_1790 : decode cL_law 1790 = .ok (.pop, 1) := row_of dLc_1715 55 rfl rfl
theorem dL_law_1791 : decode cL_law 1791 = .ok (.aload_n 2, 1) := row_of dLc_1715 56 rfl rfl
theorem dL_law_1792 : decode cL_law 1792 = .ok (.aload_n 0, 1) := row_of dLc_1715 57 rfl rfl
theorem dL_law_1793 : decode cL_law 1793 = .ok (.iload 4, 2) := row_of dLc_1715 58 rfl rfl
theorem dL_law_1795 : decode cL_law 1795 = .ok (.iconst 1, 1) := row_of dLc_1715 59 rfl rfl
theorem dL_law_1796 : decode cL_law 1796 = .ok (.iadd, 1) := row_of dLc_1715 60 rfl rfl
theorem dL_law_1797 : decode cL_law 1797 = .ok (.iaload, 1) := row_of dLc_1715 61 rfl rfl
theorem dL_law_1798 : decode cL_law 1798 = .ok (.aload_n 0, 1) := row_of dLc_1715 62 rfl rfl
theorem dL_law_1799 : decode cL_law 1799 = .ok (.iload 4, 2) := row_of dLc_1715 63 rfl rfl
theorem dLc_1801 : List.map (decode cL_law) [1801, 1802, 1803, 1804, 1807, 1808, 1811, 1812, 1813, 1815, 1816, 1817, 1818, 1821, 1822, 1823, 1824, 1826, 1827, 1828, 1829, 1832, 1833, 1836, 1839, 1842, 1843] = [.ok (.iconst 2, 1), .ok (.iadd, 1), .ok (.iaload, 1), .ok (.invokevirtual 176, 3), .ok (.pop, 1), .ok (.goto 28, 3), .ok (.aload_n 1, 1), .ok (.aload_n 0, 1), .ok (.iload 4, 2), .ok (.iconst 1, 1), .ok (.iadd, 1), .ok (.iaload, 1), .ok (.invokevirtual 177, 3), .ok (.pop, 1), .ok (.aload_n 2, 1), .ok (.aload_n 0, 1), .ok (.iload 4, 2), .ok (.iconst 1, 1), .ok (.iadd, 1), .ok (.iaload, 1), .ok (.invokevirtual 180, 3), .ok (.pop, 1), .ok (.goto 3, 3), .ok (.iinc 4 6, 3), .ok (.goto (-1816), 3), .ok (.iconst 1, 1), .ok (.ireturn, 1)] := wk_map (t := [(1801, .iconst 2, 1), (1802, .iadd, 1), (1803, .iaload, 1), (1804, .invokevirtual 176, 3), (1807, .pop, 1), (1808, .goto 28, 3), (1811, .aload_n 1, 1), (1812, .aload_n 0, 1), (1813, .iload 4, 2), (1815, .iconst 1, 1), (1816, .iadd, 1), (1817, .iaload, 1), (1818, .invokevirtual 177, 3), (1821, .pop, 1), (1822, .aload_n 2, 1), (1823, .aload_n 0, 1), (1824, .iload 4, 2), (1826, .iconst 1, 1), (1827, .iadd, 1), (1828, .iaload, 1), (1829, .invokevirtual 180, 3), (1832, .pop, 1), (1833, .goto 3, 3), (1836, .iinc 4 6, 3), (1839, .goto (-1816), 3), (1842, .iconst 1, 1), (1843, .ireturn, 1)]) (by decide +kernel)
theorem dL_law_1801 : decode cL_law 1801 = .ok (.iconst 2, 1) := row_of dLc_1801 0 rfl rfl
theorem dL_law_1802 : decode cL_law 1802 = .ok (.iadd, 1) := row_of dLc_1801 1 rfl rfl
theorem dL_law_1803 : decode cL_law 1803 = .ok (.iaload, 1) := row_of dLc_1801 2 rfl rfl
theorem dL_law_1804 : decode cL_law 1804 = .ok (.invokevirtual 176, 3) := row_of dLc_1801 3 rfl rfl
theorem dL_law_1807 : decode cL_law 1807 = .ok (.pop, 1) := row_of dLc_1801 4 rfl rfl
theorem dL_law_1808 : decode cL_law 1808 = .ok (.goto 28, 3) := row_of dLc_1801 5 rfl rfl
theorem dL_law_1811 : decode cL_law 1811 = .ok (.aload_n 1, 1) := row_of dLc_1801 6 rfl rfl
theorem dL_law_1812 : decode cL_law 1812 = .ok (.aload_n 0, 1) := row_of dLc_1801 7 rfl rfl
theorem dL_law_1813 : decode cL_law 1813 = .ok (.iload 4, 2) := row_of dLc_1801 8 rfl rfl
theorem dL_law_1815 : decode cL_law 1815 = .ok (.iconst 1, 1) := row_of dLc_1801 9 rfl rfl
theorem dL_law_1816 : decode cL_law 1816 = .ok (.iadd, 1) := row_of dLc_1801 10 rfl rfl
theorem dL_law_1817 : decode cL_law 1817 = .ok (.iaload, 1) := row_of dLc_1801 11 rfl rfl
theorem dL_law_1818 : decode cL_law 1818 = .ok (.invokevirtual 177, 3) := row_of dLc_1801 12 rfl rfl
theorem dL_law_1821 : decode cL_law 1821 = .ok (.pop, 1) := row_of dLc_1801 13 rfl rfl
theorem dL_law_1822 : decode cL_law 1822 = .ok (.aload_n 2, 1) := row_of dLc_1801 14 rfl rfl
theorem dL_law_1823 : decode cL_law 1823 = .ok (.aload_n 0, 1) := row_of dLc_1801 15 rfl rfl
theorem dL_law_1824 : decode cL_law 1824 = .ok (.iload 4, 2) := row_of dLc_1801 16 rfl rfl
theorem dL_law_1826 : decode cL_law 1826 = .ok (.iconst 1, 1) := row_of dLc_1801 17 rfl rfl
theorem dL_law_1827 : decode cL_law 1827 = .ok (.iadd, 1) := row_of dLc_1801 18 rfl rfl
theorem dL_law_1828 : decode cL_law 1828 = .ok (.iaload, 1) := row_of dLc_1801 19 rfl rfl
theorem dL_law_1829 : decode cL_law 1829 = .ok (.invokevirtual 180, 3) := row_of dLc_1801 20 rfl rfl
theorem dL_law_1832 : decode cL_law 1832 = .ok (.pop, 1) := row_of dLc_1801 21 rfl rfl
theorem dL_law_1833 : decode cL_law 1833 = .ok (.goto 3, 3) := row_of dLc_1801 22 rfl rfl
theorem dL_law_1836 : decode cL_law 1836 = .ok (.iinc 4 6, 3) := row_of dLc_1801 23 rfl rfl
theorem dL_law_1839 : decode cL_law 1839 = .ok (.goto (-1816), 3) := row_of dLc_1801 24 rfl rfl
theorem dL_law_1842 : decode cL_law 1842 = .ok (.iconst 1, 1) := row_of dLc_1801 25 rfl rfl
theorem dL_law_1843 : decode cL_law 1843 = .ok (.ireturn, 1) := row_of dLc_1801 26 rfl rfl

def R_law : String := "NoonValleyLaw"
def lw_P (b : Addr) (xs : List Int32) (args : Array Value) (s : State) : Prop := args = #[.ref b] ∧ s.IntsAt b xs ∧ xs.length ≤ 3072 ∧ (Jvm.Cond.and given_1 narrow_1).before args s = true
def lw_Q (_ : Array Value) (s : State) (o : Outcome) (t : State) : Prop := o = .returned (some (.int 1)) ∧ Framed s o t [] 601024 7293034
def lw_Z (below : List Frame) (a : Array Value) (s : State) : State → Prop := fun t => ∃ o, t.status = .running ∧ Ended t below o ∧ lw_Q a s o t
/-- the law's own end, with 1 on the stack, nothing written that was there before, its room as the claim has it -/
theorem lw_ret {p : Program} {l : Launch} {e : Env} {s : State} {m : MethodId} {below : List Frame} {meth : Method} {c : Code} {b : Nat} (hx : p.tables.exec = Jvm.exec) (hb : c.code = code) (hr : meth.sig.returnType = ret) (hlocks : meth.locks = false) {pc : Nat} {H : Heap} {ls : Array Slot} (hdg : decode code pc = .ok (.ireturn, 1)) : W p l e room_1 s m #[Value.ref b] below meth c H [] 601024 7293034 (lw_Z below #[Value.ref b] s) (F0 m pc ls [.int 1]) := by
  intro T hT X
  obtain ⟨fs, hret, hrun, hended, hW, hframe⟩ := X.leave (v := some (.int 1)) (hlocks := hlocks) (fun h => by rw [hr] at h; cases h)
  have hmeth' : T.vm.method? m = some meth := X.method'
  refine ⟨T.setFrames fs, ?_, .returned (some (.int 1)), hrun, hended, rfl, ⟨_, rfl⟩, hW, hframe⟩
  jvm_step X.here [X.here.top, hx, hb, hdg, hmeth', hr, ret, narrow_b1]
  (try refine ⟨rfl, ?_⟩); (try refine ⟨rfl, ?_⟩)
  first | (intro acts; rw [hret _ acts rfl rfl rfl]) | rw [hret _ _ rfl rfl rfl]
  exact Steps.refl _
/-- what holds at the law's entry: the machine, the code, the tables' words (any of lw_tbl by 'hts w (by decide +kernel)'), the script of L ints xs at the cell b, what the Statement gives of the start (any of its parts by flat_of_before) -/
def lw_At (p : Program) (s : State) (m : MethodId) (meth : Method) (c : Code) (b L : Nat) (xs : Nat → Int32) : Prop :=
  p.tables.exec = Jvm.exec ∧ c.code = code ∧ meth.sig.returnType = ret ∧ c.maxLocals = 7 ∧ s.vm.findClass R_law = some m.cls ∧ (∀ w ∈ lw_tbl, w.before #[Value.ref b] s = true) ∧ va_X b L xs s s.heap ∧ b < s.heap.size ∧ meth.locks = false ∧ (Jvm.Cond.and given_1 narrow_1).before #[Value.ref b] s = true
theorem row_of {c : ByteArray} {ps : List Nat} {rs : List (Except DecodeError (Instr × Nat))} (h : List.map (decode c) ps = rs) (k : Nat) {p : Nat} {r : Except DecodeError (Instr × Nat)} (hp : ps[k]? = some p) (hr : rs[k]? = some r) : decode c p = r := by
  rw [← h, List.getElem?_map, hp] at hr
  exact Option.some.inj hr
theorem dLc_0 : List.map (decode cL_law) [0, 3, 4, 7, 8, 11, 12, 15, 16, 17, 19, 20, 21, 23, 25, 26, 27, 29, 30, 33, 34, 36, 37, 39, 40, 204, 205, 206, 208, 209, 210, 211, 212, 214, 215, 216, 217, 218, 220, 221, 222, 223, 224, 226, 227, 228, 229, 230, 232, 233, 234, 235, 238, 239, 240, 241, 243, 244, 245, 246, 247, 249, 250, 251] = [.ok (.new 8, 3), .ok (.dup, 1), .ok (.invokespecial 15, 3), .ok (.astore_n 1, 1), .ok (.new 16, 3), .ok (.dup, 1), .ok (.invokespecial 18, 3), .ok (.astore_n 2, 1), .ok (.iconst 1, 1), .ok (.newarray .long, 2), .ok (.astore_n 3, 1), .ok (.iconst 0, 1), .ok (.istore 4, 2), .ok (.iload 4, 2), .ok (.aload_n 0, 1), .ok (.arraylength, 1), .ok (.bipush 6, 2), .ok (.isub, 1), .ok (.if_icmp .gt 1840, 3), .ok (.aload_n 0, 1), .ok (.iload 4, 2), .ok (.iaload, 1), .ok (.bipush 63, 2), .ok (.iand, 1), .ok (.tableswitch 1824 0 36 #[164, 237, 262, 275, 288, 325, 405, 454, 515, 540, 613, 650, 675, 724, 773, 810, 859, 932, 993, 1042, 1091, 1152, 1177, 1214, 1251, 1300, 1349, 1374, 1411, 1472, 1509, 1534, 1583, 1664, 1725, 1762, 1799], 164), .ok (.aload_n 1, 1), .ok (.aload_n 0, 1), .ok (.iload 4, 2), .ok (.iconst 1, 1), .ok (.iadd, 1), .ok (.iaload, 1), .ok (.aload_n 0, 1), .ok (.iload 4, 2), .ok (.iconst 2, 1), .ok (.iadd, 1), .ok (.iaload, 1), .ok (.aload_n 0, 1), .ok (.iload 4, 2), .ok (.iconst 3, 1), .ok (.iadd, 1), .ok (.iaload, 1), .ok (.aload_n 0, 1), .ok (.iload 4, 2), .ok (.iconst 4, 1), .ok (.iadd, 1), .ok (.iaload, 1), .ok (.aload_n 0, 1), .ok (.iload 4, 2), .ok (.iconst 5, 1), .ok (.iadd, 1), .ok (.iaload, 1), .ok (.invokevirtual 19, 3), .ok (.pop, 1), .ok (.aload_n 2, 1), .ok (.aload_n 0, 1), .ok (.iload 4, 2), .ok (.iconst 1, 1), .ok (.iadd, 1), .ok (.iaload, 1), .ok (.aload_n 0, 1), .ok (.iload 4, 2), .ok (.iconst 2, 1), .ok (.iadd, 1), .ok (.iaload, 1)] := wk_map (t := [(0, .new 8, 3), (3, .dup, 1), (4, .invokespecial 15, 3), (7, .astore_n 1, 1), (8, .new 16, 3), (11, .dup, 1), (12, .invokespecial 18, 3), (15, .astore_n 2, 1), (16, .iconst 1, 1), (17, .newarray .long, 2), (19, .astore_n 3, 1), (20, .iconst 0, 1), (21, .istore 4, 2), (23, .iload 4, 2), (25, .aload_n 0, 1), (26, .arraylength, 1), (27, .bipush 6, 2), (29, .isub, 1), (30, .if_icmp .gt 1840, 3), (33, .aload_n 0, 1), (34, .iload 4, 2), (36, .iaload, 1), (37, .bipush 63, 2), (39, .iand, 1), (40, .tableswitch 1824 0 36 #[164, 237, 262, 275, 288, 325, 405, 454, 515, 540, 613, 650, 675, 724, 773, 810, 859, 932, 993, 1042, 1091, 1152, 1177, 1214, 1251, 1300, 1349, 1374, 1411, 1472, 1509, 1534, 1583, 1664, 1725, 1762, 1799], 164), (204, .aload_n 1, 1), (205, .aload_n 0, 1), (206, .iload 4, 2), (208, .iconst 1, 1), (209, .iadd, 1), (210, .iaload, 1), (211, .aload_n 0, 1), (212, .iload 4, 2), (214, .iconst 2, 1), (215, .iadd, 1), (216, .iaload, 1), (217, .aload_n 0, 1), (218, .iload 4, 2), (220, .iconst 3, 1), (221, .iadd, 1), (222, .iaload, 1), (223, .aload_n 0, 1), (224, .iload 4, 2), (226, .iconst 4, 1), (227, .iadd, 1), (228, .iaload, 1), (229, .aload_n 0, 1), (230, .iload 4, 2), (232, .iconst 5, 1), (233, .iadd, 1), (234, .iaload, 1), (235, .invokevirtual 19, 3), (238, .pop, 1), (239, .aload_n 2, 1), (240, .aload_n 0, 1), (241, .iload 4, 2), (243, .iconst 1, 1), (244, .iadd, 1), (245, .iaload, 1), (246, .aload_n 0, 1), (247, .iload 4, 2), (249, .iconst 2, 1), (250, .iadd, 1), (251, .iaload, 1)]) (by decide +kernel)
theorem dL_law_0 : decode cL_law 0 = .ok (.new 8, 3) := row_of dLc_0 0 rfl rfl
theorem dL_law_3 : decode cL_law 3 = .ok (.dup, 1) := row_of dLc_0 1 rfl rfl
theorem dL_law_4 : decode cL_law 4 = .ok (.invokespecial 15, 3) := row_of dLc_0 2 rfl rfl
theorem dL_law_7 : decode cL_law 7 = .ok (.astore_n 1, 1) := row_of dLc_0 3 rfl rfl
theorem dL_law_8 : decode cL_law 8 = .ok (.new 16, 3) := row_of dLc_0 4 rfl rfl
theorem dL_law_11 : decode cL_law 11 = .ok (.dup, 1) := row_of dLc_0 5 rfl rfl
theorem dL_law_12 : decode cL_law 12 = .ok (.invokespecial 18, 3) := row_of dLc_0 6 rfl rfl
theorem dL_law_15 : decode cL_law 15 = .ok (.astore_n 2, 1) := row_of dLc_0 7 rfl rfl
theorem dL_law_16 : decode cL_law 16 = .ok (.iconst 1, 1) := row_of dLc_0 8 rfl rfl
theorem dL_law_17 : decode cL_law 17 = .ok (.newarray .long, 2) := row_of dLc_0 9 rfl rfl
theorem dL_law_19 : decode cL_law 19 = .ok (.astore_n 3, 1) := row_of dLc_0 10 rfl rfl
theorem dL_law_20 : decode cL_law 20 = .ok (.iconst 0, 1) := row_of dLc_0 11 rfl rfl
theorem dL_law_21 : decode cL_law 21 = .ok (.istore 4, 2) := row_of dLc_0 12 rfl rfl
theorem dL_law_23 : decode cL_law 23 = .ok (.iload 4, 2) := row_of dLc_0 13 rfl rfl
theorem dL_law_25 : decode cL_law 25 = .ok (.aload_n 0, 1) := row_of dLc_0 14 rfl rfl
theorem dL_law_26 : decode cL_law 26 = .ok (.arraylength, 1) := row_of dLc_0 15 rfl rfl
theorem dL_law_27 : decode cL_law 27 = .ok (.bipush 6, 2) := row_of dLc_0 16 rfl rfl
theorem dL_law_29 : decode cL_law 29 = .ok (.isub, 1) := row_of dLc_0 17 rfl rfl
theorem dL_law_30 : decode cL_law 30 = .ok (.if_icmp .gt 1840, 3) := row_of dLc_0 18 rfl rfl
theorem dL_law_33 : decode cL_law 33 = .ok (.aload_n 0, 1) := row_of dLc_0 19 rfl rfl
theorem dL_law_34 : decode cL_law 34 = .ok (.iload 4, 2) := row_of dLc_0 20 rfl rfl
theorem dL_law_36 : decode cL_law 36 = .ok (.iaload, 1) := row_of dLc_0 21 rfl rfl
theorem dL_law_37 : decode cL_law 37 = .ok (.bipush 63, 2) := row_of dLc_0 22 rfl rfl
theorem dL_law_39 : decode cL_law 39 = .ok (.iand, 1) := row_of dLc_0 23 rfl rfl
theorem dL_law_40 : decode cL_law 40 = .ok (.tableswitch 1824 0 36 #[164, 237, 262, 275, 288, 325, 405, 454, 515, 540, 613, 650, 675, 724, 773, 810, 859, 932, 993, 1042, 1091, 1152, 1177, 1214, 1251, 1300, 1349, 1374, 1411, 1472, 1509, 1534, 1583, 1664, 1725, 1762, 1799], 164) := row_of dLc_0 24 rfl rfl
theorem dL_law_204 : decode cL_law 204 = .ok (.aload_n 1, 1) := row_of dLc_0 25 rfl rfl
theorem dL_law_205 : decode cL_law 205 = .ok (.aload_n 0, 1) := row_of dLc_0 26 rfl rfl
theorem dL_law_206 : decode cL_law 206 = .ok (.iload 4, 2) := row_of dLc_0 27 rfl rfl
theorem dL_law_208 : decode cL_law 208 = .ok (.iconst 1, 1) := row_of dLc_0 28 rfl rfl
theorem dL_law_209 : decode cL_law 209 = .ok (.iadd, 1) := row_of dLc_0 29 rfl rfl
theorem dL_law_210 : decode cL_law 210 = .ok (.iaload, 1) := row_of dLc_0 30 rfl rfl
theorem dL_law_211 : decode cL_law 211 = .ok (.aload_n 0, 1) := row_of dLc_0 31 rfl rfl
theorem dL_law_212 : decode cL_law 212 = .ok (.iload 4, 2) := row_of dLc_0 32 rfl rfl
theorem dL_law_214 : decode cL_law 214 = .ok (.iconst 2, 1) := row_of dLc_0 33 rfl rfl
theorem dL_law_215 : decode cL_law 215 = .ok (.iadd, 1) := row_of dLc_0 34 rfl rfl
theorem dL_law_216 : decode cL_law 216 = .ok (.iaload, 1) := row_of dLc_0 35 rfl rfl
theorem dL_law_217 : decode cL_law 217 = .ok (.aload_n 0, 1) := row_of dLc_0 36 rfl rfl
theorem dL_law_218 : decode cL_law 218 = .ok (.iload 4, 2) := row_of dLc_0 37 rfl rfl
theorem dL_law_220 : decode cL_law 220 = .ok (.iconst 3, 1) := row_of dLc_0 38 rfl rfl
theorem dL_law_221 : decode cL_law 221 = .ok (.iadd, 1) := row_of dLc_0 39 rfl rfl
theorem dL_law_222 : decode cL_law 222 = .ok (.iaload, 1) := row_of dLc_0 40 rfl rfl
theorem dL_law_223 : decode cL_law 223 = .ok (.aload_n 0, 1) := row_of dLc_0 41 rfl rfl
theorem dL_law_224 : decode cL_law 224 = .ok (.iload 4, 2) := row_of dLc_0 42 rfl rfl
theorem dL_law_226 : decode cL_law 226 = .ok (.iconst 4, 1) := row_of dLc_0 43 rfl rfl
theorem dL_law_227 : decode cL_law 227 = .ok (.iadd, 1) := row_of dLc_0 44 rfl rfl
theorem dL_law_228 : decode cL_law 228 = .ok (.iaload, 1) := row_of dLc_0 45 rfl rfl
theorem dL_law_229 : decode cL_law 229 = .ok (.aload_n 0, 1) := row_of dLc_0 46 rfl rfl
theorem dL_law_230 : decode cL_law 230 = .ok (.iload 4, 2) := row_of dLc_0 47 rfl rfl
theorem dL_law_232 : decode cL_law 232 = .ok (.iconst 5, 1) := row_of dLc_0 48 rfl rfl
theorem dL_law_233 : decode cL_law 233 = .ok (.iadd, 1) := row_of dLc_0 49 rfl rfl
theorem dL_law_234 : decode cL_law 234 = .ok (.iaload, 1) := row_of dLc_0 50 rfl rfl
theorem dL_law_235 : decode cL_law 235 = .ok (.invokevirtual 19, 3) := row_of dLc_0 51 rfl rfl
theorem dL_law_238 : decode cL_law 238 = .ok (.pop, 1) := row_of dLc_0 52 rfl rfl
theorem dL_law_239 : decode cL_law 239 = .ok (.aload_n 2, 1) := row_of dLc_0 53 rfl rfl
theorem dL_law_240 : decode cL_law 240 = .ok (.aload_n 0, 1) := row_of dLc_0 54 rfl rfl
theorem dL_law_241 : decode cL_law 241 = .ok (.iload 4, 2) := row_of dLc_0 55 rfl rfl
theorem dL_law_243 : decode cL_law 243 = .ok (.iconst 1, 1) := row_of dLc_0 56 rfl rfl
theorem dL_law_244 : decode cL_law 244 = .ok (.iadd, 1) := row_of dLc_0 57 rfl rfl
theorem dL_law_245 : decode cL_law 245 = .ok (.iaload, 1) := row_of dLc_0 58 rfl rfl
theorem dL_law_246 : decode cL_law 246 = .ok (.aload_n 0, 1) := row_of dLc_0 59 rfl rfl
theorem dL_law_247 : decode cL_law 247 = .ok (.iload 4, 2) := row_of dLc_0 60 rfl rfl
theorem dL_law_249 : decode cL_law 249 = .ok (.iconst 2, 1) := row_of dLc_0 61 rfl rfl
theorem dL_law_250 : decode cL_law 250 = .ok (.iadd, 1) := row_of dLc_0 62 rfl rfl
theorem dL_law_251 : decode cL_law 251 = .ok (.iaload, 1) := row_of dLc_0 63 rfl rfl
theorem dLc_252 : List.map (decode cL_law) [252, 253, 255, 256, 257, 258, 259, 261, 262, 263, 264, 265, 267, 268, 269, 270, 273, 274, 277, 278, 279, 281, 282, 283, 284, 287, 288, 289, 290, 292, 293, 294, 295, 298, 299, 302, 303, 306, 307, 308, 311, 312, 315, 316, 319, 320, 321, 324, 325, 328, 329, 330, 332, 333, 334, 335, 336, 338, 339, 340, 341, 344, 345, 346] = [.ok (.aload_n 0, 1), .ok (.iload 4, 2), .ok (.iconst 3, 1), .ok (.iadd, 1), .ok (.iaload, 1), .ok (.aload_n 0, 1), .ok (.iload 4, 2), .ok (.iconst 4, 1), .ok (.iadd, 1), .ok (.iaload, 1), .ok (.aload_n 0, 1), .ok (.iload 4, 2), .ok (.iconst 5, 1), .ok (.iadd, 1), .ok (.iaload, 1), .ok (.invokevirtual 23, 3), .ok (.pop, 1), .ok (.goto 1590, 3), .ok (.aload_n 1, 1), .ok (.aload_n 0, 1), .ok (.iload 4, 2), .ok (.iconst 1, 1), .ok (.iadd, 1), .ok (.iaload, 1), .ok (.invokevirtual 24, 3), .ok (.pop, 1), .ok (.aload_n 2, 1), .ok (.aload_n 0, 1), .ok (.iload 4, 2), .ok (.iconst 1, 1), .ok (.iadd, 1), .ok (.iaload, 1), .ok (.invokevirtual 28, 3), .ok (.pop, 1), .ok (.goto 1565, 3), .ok (.aload_n 1, 1), .ok (.invokevirtual 29, 3), .ok (.pop, 1), .ok (.aload_n 2, 1), .ok (.invokevirtual 33, 3), .ok (.pop, 1), .ok (.goto 1552, 3), .ok (.aload_n 1, 1), .ok (.invokevirtual 34, 3), .ok (.pop, 1), .ok (.aload_n 2, 1), .ok (.invokevirtual 37, 3), .ok (.pop, 1), .ok (.goto 1539, 3), .ok (.aload_n 1, 1), .ok (.aload_n 0, 1), .ok (.iload 4, 2), .ok (.iconst 1, 1), .ok (.iadd, 1), .ok (.iaload, 1), .ok (.aload_n 0, 1), .ok (.iload 4, 2), .ok (.iconst 2, 1), .ok (.iadd, 1), .ok (.iaload, 1), .ok (.invokevirtual 38, 3), .ok (.pop, 1), .ok (.aload_n 2, 1), .ok (.aload_n 0, 1)] := wk_map (t := [(252, .aload_n 0, 1), (253, .iload 4, 2), (255, .iconst 3, 1), (256, .iadd, 1), (257, .iaload, 1), (258, .aload_n 0, 1), (259, .iload 4, 2), (261, .iconst 4, 1), (262, .iadd, 1), (263, .iaload, 1), (264, .aload_n 0, 1), (265, .iload 4, 2), (267, .iconst 5, 1), (268, .iadd, 1), (269, .iaload, 1), (270, .invokevirtual 23, 3), (273, .pop, 1), (274, .goto 1590, 3), (277, .aload_n 1, 1), (278, .aload_n 0, 1), (279, .iload 4, 2), (281, .iconst 1, 1), (282, .iadd, 1), (283, .iaload, 1), (284, .invokevirtual 24, 3), (287, .pop, 1), (288, .aload_n 2, 1), (289, .aload_n 0, 1), (290, .iload 4, 2), (292, .iconst 1, 1), (293, .iadd, 1), (294, .iaload, 1), (295, .invokevirtual 28, 3), (298, .pop, 1), (299, .goto 1565, 3), (302, .aload_n 1, 1), (303, .invokevirtual 29, 3), (306, .pop, 1), (307, .aload_n 2, 1), (308, .invokevirtual 33, 3), (311, .pop, 1), (312, .goto 1552, 3), (315, .aload_n 1, 1), (316, .invokevirtual 34, 3), (319, .pop, 1), (320, .aload_n 2, 1), (321, .invokevirtual 37, 3), (324, .pop, 1), (325, .goto 1539, 3), (328, .aload_n 1, 1), (329, .aload_n 0, 1), (330, .iload 4, 2), (332, .iconst 1, 1), (333, .iadd, 1), (334, .iaload, 1), (335, .aload_n 0, 1), (336, .iload 4, 2), (338, .iconst 2, 1), (339, .iadd, 1), (340, .iaload, 1), (341, .invokevirtual 38, 3), (344, .pop, 1), (345, .aload_n 2, 1), (346, .aload_n 0, 1)]) (by decide +kernel)
theorem dL_law_252 : decode cL_law 252 = .ok (.aload_n 0, 1) := row_of dLc_252 0 rfl rfl
theorem dL_law_253 : decode cL_law 253 = .ok (.iload 4, 2) := row_of dLc_252 1 rfl rfl
theorem dL_law_255 : decode cL_law 255 = .ok (.iconst 3, 1) := row_of dLc_252 2 rfl rfl
theorem dL_law_256 : decode cL_law 256 = .ok (.iadd, 1) := row_of dLc_252 3 rfl rfl
theorem dL_law_257 : decode cL_law 257 = .ok (.iaload, 1) := row_of dLc_252 4 rfl rfl
theorem dL_law_258 : decode cL_law 258 = .ok (.aload_n 0, 1) := row_of dLc_252 5 rfl rfl
theorem dL_law_259 : decode cL_law 259 = .ok (.iload 4, 2) := row_of dLc_252 6 rfl rfl
theorem dL_law_261 : decode cL_law 261 = .ok (.iconst 4, 1) := row_of dLc_252 7 rfl rfl
theorem dL_law_262 : decode cL_law 262 = .ok (.iadd, 1) := row_of dLc_252 8 rfl rfl
theorem dL_law_263 : decode cL_law 263 = .ok (.iaload, 1) := row_of dLc_252 9 rfl rfl
theorem dL_law_264 : decode cL_law 264 = .ok (.aload_n 0, 1) := row_of dLc_252 10 rfl rfl
theorem dL_law_265 : decode cL_law 265 = .ok (.iload 4, 2) := row_of dLc_252 11 rfl rfl
theorem dL_law_267 : decode cL_law 267 = .ok (.iconst 5, 1) := row_of dLc_252 12 rfl rfl
theorem dL_law_268 : decode cL_law 268 = .ok (.iadd, 1) := row_of dLc_252 13 rfl rfl
theorem dL_law_269 : decode cL_law 269 = .ok (.iaload, 1) := row_of dLc_252 14 rfl rfl
theorem dL_law_270 : decode cL_law 270 = .ok (.invokevirtual 23, 3) := row_of dLc_252 15 rfl rfl
theorem dL_law_273 : decode cL_law 273 = .ok (.pop, 1) := row_of dLc_252 16 rfl rfl
theorem dL_law_274 : decode cL_law 274 = .ok (.goto 1590, 3) := row_of dLc_252 17 rfl rfl
theorem dL_law_277 : decode cL_law 277 = .ok (.aload_n 1, 1) := row_of dLc_252 18 rfl rfl
theorem dL_law_278 : decode cL_law 278 = .ok (.aload_n 0, 1) := row_of dLc_252 19 rfl rfl
theorem dL_law_279 : decode cL_law 279 = .ok (.iload 4, 2) := row_of dLc_252 20 rfl rfl
theorem dL_law_281 : decode cL_law 281 = .ok (.iconst 1, 1) := row_of dLc_252 21 rfl rfl
theorem dL_law_282 : decode cL_law 282 = .ok (.iadd, 1) := row_of dLc_252 22 rfl rfl
theorem dL_law_283 : decode cL_law 283 = .ok (.iaload, 1) := row_of dLc_252 23 rfl rfl
theorem dL_law_284 : decode cL_law 284 = .ok (.invokevirtual 24, 3) := row_of dLc_252 24 rfl rfl
theorem dL_law_287 : decode cL_law 287 = .ok (.pop, 1) := row_of dLc_252 25 rfl rfl
theorem dL_law_288 : decode cL_law 288 = .ok (.aload_n 2, 1) := row_of dLc_252 26 rfl rfl
theorem dL_law_289 : decode cL_law 289 = .ok (.aload_n 0, 1) := row_of dLc_252 27 rfl rfl
theorem dL_law_290 : decode cL_law 290 = .ok (.iload 4, 2) := row_of dLc_252 28 rfl rfl
theorem dL_law_292 : decode cL_law 292 = .ok (.iconst 1, 1) := row_of dLc_252 29 rfl rfl
theorem dL_law_293 : decode cL_law 293 = .ok (.iadd, 1) := row_of dLc_252 30 rfl rfl
theorem dL_law_294 : decode cL_law 294 = .ok (.iaload, 1) := row_of dLc_252 31 rfl rfl
theorem dL_law_295 : decode cL_law 295 = .ok (.invokevirtual 28, 3) := row_of dLc_252 32 rfl rfl
theorem dL_law_298 : decode cL_law 298 = .ok (.pop, 1) := row_of dLc_252 33 rfl rfl
theorem dL_law_299 : decode cL_law 299 = .ok (.goto 1565, 3) := row_of dLc_252 34 rfl rfl
theorem dL_law_302 : decode cL_law 302 = .ok (.aload_n 1, 1) := row_of dLc_252 35 rfl rfl
theorem dL_law_303 : decode cL_law 303 = .ok (.invokevirtual 29, 3) := row_of dLc_252 36 rfl rfl
theorem dL_law_306 : decode cL_law 306 = .ok (.pop, 1) := row_of dLc_252 37 rfl rfl
theorem dL_law_307 : decode cL_law 307 = .ok (.aload_n 2, 1) := row_of dLc_252 38 rfl rfl
theorem dL_law_308 : decode cL_law 308 = .ok (.invokevirtual 33, 3) := row_of dLc_252 39 rfl rfl
theorem dL_law_311 : decode cL_law 311 = .ok (.pop, 1) := row_of dLc_252 40 rfl rfl
theorem dL_law_312 : decode cL_law 312 = .ok (.goto 1552, 3) := row_of dLc_252 41 rfl rfl
theorem dL_law_315 : decode cL_law 315 = .ok (.aload_n 1, 1) := row_of dLc_252 42 rfl rfl
theorem dL_law_316 : decode cL_law 316 = .ok (.invokevirtual 34, 3) := row_of dLc_252 43 rfl rfl
theorem dL_law_319 : decode cL_law 319 = .ok (.pop, 1) := row_of dLc_252 44 rfl rfl
theorem dL_law_320 : decode cL_law 320 = .ok (.aload_n 2, 1) := row_of dLc_252 45 rfl rfl
theorem dL_law_321 : decode cL_law 321 = .ok (.invokevirtual 37, 3) := row_of dLc_252 46 rfl rfl
theorem dL_law_324 : decode cL_law 324 = .ok (.pop, 1) := row_of dLc_252 47 rfl rfl
theorem dL_law_325 : decode cL_law 325 = .ok (.goto 1539, 3) := row_of dLc_252 48 rfl rfl
theorem dL_law_328 : decode cL_law 328 = .ok (.aload_n 1, 1) := row_of dLc_252 49 rfl rfl
theorem dL_law_329 : decode cL_law 329 = .ok (.aload_n 0, 1) := row_of dLc_252 50 rfl rfl
theorem dL_law_330 : decode cL_law 330 = .ok (.iload 4, 2) := row_of dLc_252 51 rfl rfl
theorem dL_law_332 : decode cL_law 332 = .ok (.iconst 1, 1) := row_of dLc_252 52 rfl rfl
theorem dL_law_333 : decode cL_law 333 = .ok (.iadd, 1) := row_of dLc_252 53 rfl rfl
theorem dL_law_334 : decode cL_law 334 = .ok (.iaload, 1) := row_of dLc_252 54 rfl rfl
theorem dL_law_335 : decode cL_law 335 = .ok (.aload_n 0, 1) := row_of dLc_252 55 rfl rfl
theorem dL_law_336 : decode cL_law 336 = .ok (.iload 4, 2) := row_of dLc_252 56 rfl rfl
theorem dL_law_338 : decode cL_law 338 = .ok (.iconst 2, 1) := row_of dLc_252 57 rfl rfl
theorem dL_law_339 : decode cL_law 339 = .ok (.iadd, 1) := row_of dLc_252 58 rfl rfl
theorem dL_law_340 : decode cL_law 340 = .ok (.iaload, 1) := row_of dLc_252 59 rfl rfl
theorem dL_law_341 : decode cL_law 341 = .ok (.invokevirtual 38, 3) := row_of dLc_252 60 rfl rfl
theorem dL_law_344 : decode cL_law 344 = .ok (.pop, 1) := row_of dLc_252 61 rfl rfl
theorem dL_law_345 : decode cL_law 345 = .ok (.aload_n 2, 1) := row_of dLc_252 62 rfl rfl
theorem dL_law_346 : decode cL_law 346 = .ok (.aload_n 0, 1) := row_of dLc_252 63 rfl rfl
theorem dLc_347 : List.map (decode cL_law) [347, 349, 350, 351, 352, 353, 355, 356, 357, 358, 361, 362, 365, 366, 367, 369, 370, 371, 372, 373, 375, 376, 377, 378, 379, 381, 382, 383, 384, 385, 388, 390, 391, 392, 394, 395, 396, 397, 398, 400, 401, 402, 403, 404, 406, 407, 408, 409, 412, 414, 415, 418, 420, 423, 424, 425, 427, 430, 431, 432, 433, 435, 436, 437] = [.ok (.iload 4, 2), .ok (.iconst 1, 1), .ok (.iadd, 1), .ok (.iaload, 1), .ok (.aload_n 0, 1), .ok (.iload 4, 2), .ok (.iconst 2, 1), .ok (.iadd, 1), .ok (.iaload, 1), .ok (.invokevirtual 42, 3), .ok (.pop, 1), .ok (.goto 1502, 3), .ok (.aload_n 1, 1), .ok (.aload_n 0, 1), .ok (.iload 4, 2), .ok (.iconst 1, 1), .ok (.iadd, 1), .ok (.iaload, 1), .ok (.aload_n 0, 1), .ok (.iload 4, 2), .ok (.iconst 2, 1), .ok (.iadd, 1), .ok (.iaload, 1), .ok (.aload_n 0, 1), .ok (.iload 4, 2), .ok (.iconst 3, 1), .ok (.iadd, 1), .ok (.iaload, 1), .ok (.aload_n 3, 1), .ok (.invokestatic 43, 3), .ok (.istore 5, 2), .ok (.aload_n 2, 1), .ok (.aload_n 0, 1), .ok (.iload 4, 2), .ok (.iconst 1, 1), .ok (.iadd, 1), .ok (.iaload, 1), .ok (.aload_n 0, 1), .ok (.iload 4, 2), .ok (.iconst 2, 1), .ok (.iadd, 1), .ok (.iaload, 1), .ok (.aload_n 0, 1), .ok (.iload 4, 2), .ok (.iconst 3, 1), .ok (.iadd, 1), .ok (.iaload, 1), .ok (.invokevirtual 48, 3), .ok (.istore 6, 2), .ok (.aload_n 2, 1), .ok (.invokevirtual 49, 3), .ok (.iload 5, 2), .ok (.if_icmp .eq 5, 3), .ok (.iconst 0, 1), .ok (.ireturn, 1), .ok (.iload 5, 2), .ok (.ifCond .ne 15, 3), .ok (.aload_n 3, 1), .ok (.iconst 0, 1), .ok (.laload, 1), .ok (.iload 6, 2), .ok (.i2l, 1), .ok (.lcmp, 1), .ok (.ifCond .eq 5, 3)] := wk_map (t := [(347, .iload 4, 2), (349, .iconst 1, 1), (350, .iadd, 1), (351, .iaload, 1), (352, .aload_n 0, 1), (353, .iload 4, 2), (355, .iconst 2, 1), (356, .iadd, 1), (357, .iaload, 1), (358, .invokevirtual 42, 3), (361, .pop, 1), (362, .goto 1502, 3), (365, .aload_n 1, 1), (366, .aload_n 0, 1), (367, .iload 4, 2), (369, .iconst 1, 1), (370, .iadd, 1), (371, .iaload, 1), (372, .aload_n 0, 1), (373, .iload 4, 2), (375, .iconst 2, 1), (376, .iadd, 1), (377, .iaload, 1), (378, .aload_n 0, 1), (379, .iload 4, 2), (381, .iconst 3, 1), (382, .iadd, 1), (383, .iaload, 1), (384, .aload_n 3, 1), (385, .invokestatic 43, 3), (388, .istore 5, 2), (390, .aload_n 2, 1), (391, .aload_n 0, 1), (392, .iload 4, 2), (394, .iconst 1, 1), (395, .iadd, 1), (396, .iaload, 1), (397, .aload_n 0, 1), (398, .iload 4, 2), (400, .iconst 2, 1), (401, .iadd, 1), (402, .iaload, 1), (403, .aload_n 0, 1), (404, .iload 4, 2), (406, .iconst 3, 1), (407, .iadd, 1), (408, .iaload, 1), (409, .invokevirtual 48, 3), (412, .istore 6, 2), (414, .aload_n 2, 1), (415, .invokevirtual 49, 3), (418, .iload 5, 2), (420, .if_icmp .eq 5, 3), (423, .iconst 0, 1), (424, .ireturn, 1), (425, .iload 5, 2), (427, .ifCond .ne 15, 3), (430, .aload_n 3, 1), (431, .iconst 0, 1), (432, .laload, 1), (433, .iload 6, 2), (435, .i2l, 1), (436, .lcmp, 1), (437, .ifCond .eq 5, 3)]) (by decide +kernel)
theorem dL_law_347 : decode cL_law 347 = .ok (.iload 4, 2) := row_of dLc_347 0 rfl rfl
theorem dL_law_349 : decode cL_law 349 = .ok (.iconst 1, 1) := row_of dLc_347 1 rfl rfl
theorem dL_law_350 : decode cL_law 350 = .ok (.iadd, 1) := row_of dLc_347 2 rfl rfl
theorem dL_law_351 : decode cL_law 351 = .ok (.iaload, 1) := row_of dLc_347 3 rfl rfl
theorem dL_law_352 : decode cL_law 352 = .ok (.aload_n 0, 1) := row_of dLc_347 4 rfl rfl
theorem dL_law_353 : decode cL_law 353 = .ok (.iload 4, 2) := row_of dLc_347 5 rfl rfl
theorem dL_law_355 : decode cL_law 355 = .ok (.iconst 2, 1) := row_of dLc_347 6 rfl rfl
theorem dL_law_356 : decode cL_law 356 = .ok (.iadd, 1) := row_of dLc_347 7 rfl rfl
theorem dL_law_357 : decode cL_law 357 = .ok (.iaload, 1) := row_of dLc_347 8 rfl rfl
theorem dL_law_358 : decode cL_law 358 = .ok (.invokevirtual 42, 3) := row_of dLc_347 9 rfl rfl
theorem dL_law_361 : decode cL_law 361 = .ok (.pop, 1) := row_of dLc_347 10 rfl rfl
theorem dL_law_362 : decode cL_law 362 = .ok (.goto 1502, 3) := row_of dLc_347 11 rfl rfl
theorem dL_law_365 : decode cL_law 365 = .ok (.aload_n 1, 1) := row_of dLc_347 12 rfl rfl
theorem dL_law_366 : decode cL_law 366 = .ok (.aload_n 0, 1) := row_of dLc_347 13 rfl rfl
theorem dL_law_367 : decode cL_law 367 = .ok (.iload 4, 2) := row_of dLc_347 14 rfl rfl
theorem dL_law_369 : decode cL_law 369 = .ok (.iconst 1, 1) := row_of dLc_347 15 rfl rfl
theorem dL_law_370 : decode cL_law 370 = .ok (.iadd, 1) := row_of dLc_347 16 rfl rfl
theorem dL_law_371 : decode cL_law 371 = .ok (.iaload, 1) := row_of dLc_347 17 rfl rfl
theorem dL_law_372 : decode cL_law 372 = .ok (.aload_n 0, 1) := row_of dLc_347 18 rfl rfl
theorem dL_law_373 : decode cL_law 373 = .ok (.iload 4, 2) := row_of dLc_347 19 rfl rfl
theorem dL_law_375 : decode cL_law 375 = .ok (.iconst 2, 1) := row_of dLc_347 20 rfl rfl
theorem dL_law_376 : decode cL_law 376 = .ok (.iadd, 1) := row_of dLc_347 21 rfl rfl
theorem dL_law_377 : decode cL_law 377 = .ok (.iaload, 1) := row_of dLc_347 22 rfl rfl
theorem dL_law_378 : decode cL_law 378 = .ok (.aload_n 0, 1) := row_of dLc_347 23 rfl rfl
theorem dL_law_379 : decode cL_law 379 = .ok (.iload 4, 2) := row_of dLc_347 24 rfl rfl
theorem dL_law_381 : decode cL_law 381 = .ok (.iconst 3, 1) := row_of dLc_347 25 rfl rfl
theorem dL_law_382 : decode cL_law 382 = .ok (.iadd, 1) := row_of dLc_347 26 rfl rfl
theorem dL_law_383 : decode cL_law 383 = .ok (.iaload, 1) := row_of dLc_347 27 rfl rfl
theorem dL_law_384 : decode cL_law 384 = .ok (.aload_n 3, 1) := row_of dLc_347 28 rfl rfl
theorem dL_law_385 : decode cL_law 385 = .ok (.invokestatic 43, 3) := row_of dLc_347 29 rfl rfl
theorem dL_law_388 : decode cL_law 388 = .ok (.istore 5, 2) := row_of dLc_347 30 rfl rfl
theorem dL_law_390 : decode cL_law 390 = .ok (.aload_n 2, 1) := row_of dLc_347 31 rfl rfl
theorem dL_law_391 : decode cL_law 391 = .ok (.aload_n 0, 1) := row_of dLc_347 32 rfl rfl
theorem dL_law_392 : decode cL_law 392 = .ok (.iload 4, 2) := row_of dLc_347 33 rfl rfl
theorem dL_law_394 : decode cL_law 394 = .ok (.iconst 1, 1) := row_of dLc_347 34 rfl rfl
theorem dL_law_395 : decode cL_law 395 = .ok (.iadd, 1) := row_of dLc_347 35 rfl rfl
theorem dL_law_396 : decode cL_law 396 = .ok (.iaload, 1) := row_of dLc_347 36 rfl rfl
theorem dL_law_397 : decode cL_law 397 = .ok (.aload_n 0, 1) := row_of dLc_347 37 rfl rfl
theorem dL_law_398 : decode cL_law 398 = .ok (.iload 4, 2) := row_of dLc_347 38 rfl rfl
theorem dL_law_400 : decode cL_law 400 = .ok (.iconst 2, 1) := row_of dLc_347 39 rfl rfl
theorem dL_law_401 : decode cL_law 401 = .ok (.iadd, 1) := row_of dLc_347 40 rfl rfl
theorem dL_law_402 : decode cL_law 402 = .ok (.iaload, 1) := row_of dLc_347 41 rfl rfl
theorem dL_law_403 : decode cL_law 403 = .ok (.aload_n 0, 1) := row_of dLc_347 42 rfl rfl
theorem dL_law_404 : decode cL_law 404 = .ok (.iload 4, 2) := row_of dLc_347 43 rfl rfl
theorem dL_law_406 : decode cL_law 406 = .ok (.iconst 3, 1) := row_of dLc_347 44 rfl rfl
theorem dL_law_407 : decode cL_law 407 = .ok (.iadd, 1) := row_of dLc_347 45 rfl rfl
theorem dL_law_408 : decode cL_law 408 = .ok (.iaload, 1) := row_of dLc_347 46 rfl rfl
theorem dL_law_409 : decode cL_law 409 = .ok (.invokevirtual 48, 3) := row_of dLc_347 47 rfl rfl
theorem dL_law_412 : decode cL_law 412 = .ok (.istore 6, 2) := row_of dLc_347 48 rfl rfl
theorem dL_law_414 : decode cL_law 414 = .ok (.aload_n 2, 1) := row_of dLc_347 49 rfl rfl
theorem dL_law_415 : decode cL_law 415 = .ok (.invokevirtual 49, 3) := row_of dLc_347 50 rfl rfl
theorem dL_law_418 : decode cL_law 418 = .ok (.iload 5, 2) := row_of dLc_347 51 rfl rfl
theorem dL_law_420 : decode cL_law 420 = .ok (.if_icmp .eq 5, 3) := row_of dLc_347 52 rfl rfl
theorem dL_law_423 : decode cL_law 423 = .ok (.iconst 0, 1) := row_of dLc_347 53 rfl rfl
theorem dL_law_424 : decode cL_law 424 = .ok (.ireturn, 1) := row_of dLc_347 54 rfl rfl
theorem dL_law_425 : decode cL_law 425 = .ok (.iload 5, 2) := row_of dLc_347 55 rfl rfl
theorem dL_law_427 : decode cL_law 427 = .ok (.ifCond .ne 15, 3) := row_of dLc_347 56 rfl rfl
theorem dL_law_430 : decode cL_law 430 = .ok (.aload_n 3, 1) := row_of dLc_347 57 rfl rfl
theorem dL_law_431 : decode cL_law 431 = .ok (.iconst 0, 1) := row_of dLc_347 58 rfl rfl
theorem dL_law_432 : decode cL_law 432 = .ok (.laload, 1) := row_of dLc_347 59 rfl rfl
theorem dL_law_433 : decode cL_law 433 = .ok (.iload 6, 2) := row_of dLc_347 60 rfl rfl
theorem dL_law_435 : decode cL_law 435 = .ok (.i2l, 1) := row_of dLc_347 61 rfl rfl
theorem dL_law_436 : decode cL_law 436 = .ok (.lcmp, 1) := row_of dLc_347 62 rfl rfl
theorem dL_law_437 : decode cL_law 437 = .ok (.ifCond .eq 5, 3) := row_of dLc_347 63 rfl rfl
theorem dLc_440 : List.map (decode cL_law) [440, 441, 442, 445, 446, 447, 449, 450, 451, 452, 453, 455, 456, 457, 458, 459, 461, 462, 463, 464, 467, 468, 469, 470, 472, 473, 474, 475, 476, 478, 479, 480, 481, 482, 484, 485, 486, 487, 490, 491, 494, 495, 496, 498, 499, 500, 501, 502, 504, 505, 506, 507, 508, 510, 511, 512, 513, 514, 516, 517, 518, 519, 522, 523] = [.ok (.iconst 0, 1), .ok (.ireturn, 1), .ok (.goto 1422, 3), .ok (.aload_n 1, 1), .ok (.aload_n 0, 1), .ok (.iload 4, 2), .ok (.iconst 1, 1), .ok (.iadd, 1), .ok (.iaload, 1), .ok (.aload_n 0, 1), .ok (.iload 4, 2), .ok (.iconst 2, 1), .ok (.iadd, 1), .ok (.iaload, 1), .ok (.aload_n 0, 1), .ok (.iload 4, 2), .ok (.iconst 3, 1), .ok (.iadd, 1), .ok (.iaload, 1), .ok (.invokevirtual 52, 3), .ok (.pop, 1), .ok (.aload_n 2, 1), .ok (.aload_n 0, 1), .ok (.iload 4, 2), .ok (.iconst 1, 1), .ok (.iadd, 1), .ok (.iaload, 1), .ok (.aload_n 0, 1), .ok (.iload 4, 2), .ok (.iconst 2, 1), .ok (.iadd, 1), .ok (.iaload, 1), .ok (.aload_n 0, 1), .ok (.iload 4, 2), .ok (.iconst 3, 1), .ok (.iadd, 1), .ok (.iaload, 1), .ok (.invokevirtual 56, 3), .ok (.pop, 1), .ok (.goto 1373, 3), .ok (.aload_n 1, 1), .ok (.aload_n 0, 1), .ok (.iload 4, 2), .ok (.iconst 1, 1), .ok (.iadd, 1), .ok (.iaload, 1), .ok (.aload_n 0, 1), .ok (.iload 4, 2), .ok (.iconst 2, 1), .ok (.iadd, 1), .ok (.iaload, 1), .ok (.aload_n 0, 1), .ok (.iload 4, 2), .ok (.iconst 3, 1), .ok (.iadd, 1), .ok (.iaload, 1), .ok (.aload_n 0, 1), .ok (.iload 4, 2), .ok (.iconst 4, 1), .ok (.iadd, 1), .ok (.iaload, 1), .ok (.invokevirtual 57, 3), .ok (.pop, 1), .ok (.aload_n 2, 1)] := wk_map (t := [(440, .iconst 0, 1), (441, .ireturn, 1), (442, .goto 1422, 3), (445, .aload_n 1, 1), (446, .aload_n 0, 1), (447, .iload 4, 2), (449, .iconst 1, 1), (450, .iadd, 1), (451, .iaload, 1), (452, .aload_n 0, 1), (453, .iload 4, 2), (455, .iconst 2, 1), (456, .iadd, 1), (457, .iaload, 1), (458, .aload_n 0, 1), (459, .iload 4, 2), (461, .iconst 3, 1), (462, .iadd, 1), (463, .iaload, 1), (464, .invokevirtual 52, 3), (467, .pop, 1), (468, .aload_n 2, 1), (469, .aload_n 0, 1), (470, .iload 4, 2), (472, .iconst 1, 1), (473, .iadd, 1), (474, .iaload, 1), (475, .aload_n 0, 1), (476, .iload 4, 2), (478, .iconst 2, 1), (479, .iadd, 1), (480, .iaload, 1), (481, .aload_n 0, 1), (482, .iload 4, 2), (484, .iconst 3, 1), (485, .iadd, 1), (486, .iaload, 1), (487, .invokevirtual 56, 3), (490, .pop, 1), (491, .goto 1373, 3), (494, .aload_n 1, 1), (495, .aload_n 0, 1), (496, .iload 4, 2), (498, .iconst 1, 1), (499, .iadd, 1), (500, .iaload, 1), (501, .aload_n 0, 1), (502, .iload 4, 2), (504, .iconst 2, 1), (505, .iadd, 1), (506, .iaload, 1), (507, .aload_n 0, 1), (508, .iload 4, 2), (510, .iconst 3, 1), (511, .iadd, 1), (512, .iaload, 1), (513, .aload_n 0, 1), (514, .iload 4, 2), (516, .iconst 4, 1), (517, .iadd, 1), (518, .iaload, 1), (519, .invokevirtual 57, 3), (522, .pop, 1), (523, .aload_n 2, 1)]) (by decide +kernel)
theorem dL_law_440 : decode cL_law 440 = .ok (.iconst 0, 1) := row_of dLc_440 0 rfl rfl
theorem dL_law_441 : decode cL_law 441 = .ok (.ireturn, 1) := row_of dLc_440 1 rfl rfl
theorem dL_law_442 : decode cL_law 442 = .ok (.goto 1422, 3) := row_of dLc_440 2 rfl rfl
theorem dL_law_445 : decode cL_law 445 = .ok (.aload_n 1, 1) := row_of dLc_440 3 rfl rfl
theorem dL_law_446 : decode cL_law 446 = .ok (.aload_n 0, 1) := row_of dLc_440 4 rfl rfl
theorem dL_law_447 : decode cL_law 447 = .ok (.iload 4, 2) := row_of dLc_440 5 rfl rfl
theorem dL_law_449 : decode cL_law 449 = .ok (.iconst 1, 1) := row_of dLc_440 6 rfl rfl
theorem dL_law_450 : decode cL_law 450 = .ok (.iadd, 1) := row_of dLc_440 7 rfl rfl
theorem dL_law_451 : decode cL_law 451 = .ok (.iaload, 1) := row_of dLc_440 8 rfl rfl
theorem dL_law_452 : decode cL_law 452 = .ok (.aload_n 0, 1) := row_of dLc_440 9 rfl rfl
theorem dL_law_453 : decode cL_law 453 = .ok (.iload 4, 2) := row_of dLc_440 10 rfl rfl
theorem dL_law_455 : decode cL_law 455 = .ok (.iconst 2, 1) := row_of dLc_440 11 rfl rfl
theorem dL_law_456 : decode cL_law 456 = .ok (.iadd, 1) := row_of dLc_440 12 rfl rfl
theorem dL_law_457 : decode cL_law 457 = .ok (.iaload, 1) := row_of dLc_440 13 rfl rfl
theorem dL_law_458 : decode cL_law 458 = .ok (.aload_n 0, 1) := row_of dLc_440 14 rfl rfl
theorem dL_law_459 : decode cL_law 459 = .ok (.iload 4, 2) := row_of dLc_440 15 rfl rfl
theorem dL_law_461 : decode cL_law 461 = .ok (.iconst 3, 1) := row_of dLc_440 16 rfl rfl
theorem dL_law_462 : decode cL_law 462 = .ok (.iadd, 1) := row_of dLc_440 17 rfl rfl
theorem dL_law_463 : decode cL_law 463 = .ok (.iaload, 1) := row_of dLc_440 18 rfl rfl
theorem dL_law_464 : decode cL_law 464 = .ok (.invokevirtual 52, 3) := row_of dLc_440 19 rfl rfl
theorem dL_law_467 : decode cL_law 467 = .ok (.pop, 1) := row_of dLc_440 20 rfl rfl
theorem dL_law_468 : decode cL_law 468 = .ok (.aload_n 2, 1) := row_of dLc_440 21 rfl rfl
theorem dL_law_469 : decode cL_law 469 = .ok (.aload_n 0, 1) := row_of dLc_440 22 rfl rfl
theorem dL_law_470 : decode cL_law 470 = .ok (.iload 4, 2) := row_of dLc_440 23 rfl rfl
theorem dL_law_472 : decode cL_law 472 = .ok (.iconst 1, 1) := row_of dLc_440 24 rfl rfl
theorem dL_law_473 : decode cL_law 473 = .ok (.iadd, 1) := row_of dLc_440 25 rfl rfl
theorem dL_law_474 : decode cL_law 474 = .ok (.iaload, 1) := row_of dLc_440 26 rfl rfl
theorem dL_law_475 : decode cL_law 475 = .ok (.aload_n 0, 1) := row_of dLc_440 27 rfl rfl
theorem dL_law_476 : decode cL_law 476 = .ok (.iload 4, 2) := row_of dLc_440 28 rfl rfl
theorem dL_law_478 : decode cL_law 478 = .ok (.iconst 2, 1) := row_of dLc_440 29 rfl rfl
theorem dL_law_479 : decode cL_law 479 = .ok (.iadd, 1) := row_of dLc_440 30 rfl rfl
theorem dL_law_480 : decode cL_law 480 = .ok (.iaload, 1) := row_of dLc_440 31 rfl rfl
theorem dL_law_481 : decode cL_law 481 = .ok (.aload_n 0, 1) := row_of dLc_440 32 rfl rfl
theorem dL_law_482 : decode cL_law 482 = .ok (.iload 4, 2) := row_of dLc_440 33 rfl rfl
theorem dL_law_484 : decode cL_law 484 = .ok (.iconst 3, 1) := row_of dLc_440 34 rfl rfl
theorem dL_law_485 : decode cL_law 485 = .ok (.iadd, 1) := row_of dLc_440 35 rfl rfl
theorem dL_law_486 : decode cL_law 486 = .ok (.iaload, 1) := row_of dLc_440 36 rfl rfl
theorem dL_law_487 : decode cL_law 487 = .ok (.invokevirtual 56, 3) := row_of dLc_440 37 rfl rfl
theorem dL_law_490 : decode cL_law 490 = .ok (.pop, 1) := row_of dLc_440 38 rfl rfl
theorem dL_law_491 : decode cL_law 491 = .ok (.goto 1373, 3) := row_of dLc_440 39 rfl rfl
theorem dL_law_494 : decode cL_law 494 = .ok (.aload_n 1, 1) := row_of dLc_440 40 rfl rfl
theorem dL_law_495 : decode cL_law 495 = .ok (.aload_n 0, 1) := row_of dLc_440 41 rfl rfl
theorem dL_law_496 : decode cL_law 496 = .ok (.iload 4, 2) := row_of dLc_440 42 rfl rfl
theorem dL_law_498 : decode cL_law 498 = .ok (.iconst 1, 1) := row_of dLc_440 43 rfl rfl
theorem dL_law_499 : decode cL_law 499 = .ok (.iadd, 1) := row_of dLc_440 44 rfl rfl
theorem dL_law_500 : decode cL_law 500 = .ok (.iaload, 1) := row_of dLc_440 45 rfl rfl
theorem dL_law_501 : decode cL_law 501 = .ok (.aload_n 0, 1) := row_of dLc_440 46 rfl rfl
theorem dL_law_502 : decode cL_law 502 = .ok (.iload 4, 2) := row_of dLc_440 47 rfl rfl
theorem dL_law_504 : decode cL_law 504 = .ok (.iconst 2, 1) := row_of dLc_440 48 rfl rfl
theorem dL_law_505 : decode cL_law 505 = .ok (.iadd, 1) := row_of dLc_440 49 rfl rfl
theorem dL_law_506 : decode cL_law 506 = .ok (.iaload, 1) := row_of dLc_440 50 rfl rfl
theorem dL_law_507 : decode cL_law 507 = .ok (.aload_n 0, 1) := row_of dLc_440 51 rfl rfl
theorem dL_law_508 : decode cL_law 508 = .ok (.iload 4, 2) := row_of dLc_440 52 rfl rfl
theorem dL_law_510 : decode cL_law 510 = .ok (.iconst 3, 1) := row_of dLc_440 53 rfl rfl
theorem dL_law_511 : decode cL_law 511 = .ok (.iadd, 1) := row_of dLc_440 54 rfl rfl
theorem dL_law_512 : decode cL_law 512 = .ok (.iaload, 1) := row_of dLc_440 55 rfl rfl
theorem dL_law_513 : decode cL_law 513 = .ok (.aload_n 0, 1) := row_of dLc_440 56 rfl rfl
theorem dL_law_514 : decode cL_law 514 = .ok (.iload 4, 2) := row_of dLc_440 57 rfl rfl
theorem dL_law_516 : decode cL_law 516 = .ok (.iconst 4, 1) := row_of dLc_440 58 rfl rfl
theorem dL_law_517 : decode cL_law 517 = .ok (.iadd, 1) := row_of dLc_440 59 rfl rfl
theorem dL_law_518 : decode cL_law 518 = .ok (.iaload, 1) := row_of dLc_440 60 rfl rfl
theorem dL_law_519 : decode cL_law 519 = .ok (.invokevirtual 57, 3) := row_of dLc_440 61 rfl rfl
theorem dL_law_522 : decode cL_law 522 = .ok (.pop, 1) := row_of dLc_440 62 rfl rfl
theorem dL_law_523 : decode cL_law 523 = .ok (.aload_n 2, 1) := row_of dLc_440 63 rfl rfl
theorem dLc_524 : List.map (decode cL_law) [524, 525, 527, 528, 529, 530, 531, 533, 534, 535, 536, 537, 539, 540, 541, 542, 543, 545, 546, 547, 548, 551, 552, 555, 556, 557, 559, 560, 561, 562, 565, 566, 567, 568, 570, 571, 572, 573, 576, 577, 580, 581, 582, 584, 585, 586, 587, 588, 590, 591, 592, 593, 594, 596, 597, 598, 599, 600, 602, 603, 604, 605, 606, 608] = [.ok (.aload_n 0, 1), .ok (.iload 4, 2), .ok (.iconst 1, 1), .ok (.iadd, 1), .ok (.iaload, 1), .ok (.aload_n 0, 1), .ok (.iload 4, 2), .ok (.iconst 2, 1), .ok (.iadd, 1), .ok (.iaload, 1), .ok (.aload_n 0, 1), .ok (.iload 4, 2), .ok (.iconst 3, 1), .ok (.iadd, 1), .ok (.iaload, 1), .ok (.aload_n 0, 1), .ok (.iload 4, 2), .ok (.iconst 4, 1), .ok (.iadd, 1), .ok (.iaload, 1), .ok (.invokevirtual 61, 3), .ok (.pop, 1), .ok (.goto 1312, 3), .ok (.aload_n 1, 1), .ok (.aload_n 0, 1), .ok (.iload 4, 2), .ok (.iconst 1, 1), .ok (.iadd, 1), .ok (.iaload, 1), .ok (.invokevirtual 62, 3), .ok (.pop, 1), .ok (.aload_n 2, 1), .ok (.aload_n 0, 1), .ok (.iload 4, 2), .ok (.iconst 1, 1), .ok (.iadd, 1), .ok (.iaload, 1), .ok (.invokevirtual 66, 3), .ok (.pop, 1), .ok (.goto 1287, 3), .ok (.aload_n 1, 1), .ok (.aload_n 0, 1), .ok (.iload 4, 2), .ok (.iconst 1, 1), .ok (.iadd, 1), .ok (.iaload, 1), .ok (.aload_n 0, 1), .ok (.iload 4, 2), .ok (.iconst 2, 1), .ok (.iadd, 1), .ok (.iaload, 1), .ok (.aload_n 0, 1), .ok (.iload 4, 2), .ok (.iconst 3, 1), .ok (.iadd, 1), .ok (.iaload, 1), .ok (.aload_n 0, 1), .ok (.iload 4, 2), .ok (.iconst 4, 1), .ok (.iadd, 1), .ok (.iaload, 1), .ok (.aload_n 0, 1), .ok (.iload 4, 2), .ok (.iconst 5, 1)] := wk_map (t := [(524, .aload_n 0, 1), (525, .iload 4, 2), (527, .iconst 1, 1), (528, .iadd, 1), (529, .iaload, 1), (530, .aload_n 0, 1), (531, .iload 4, 2), (533, .iconst 2, 1), (534, .iadd, 1), (535, .iaload, 1), (536, .aload_n 0, 1), (537, .iload 4, 2), (539, .iconst 3, 1), (540, .iadd, 1), (541, .iaload, 1), (542, .aload_n 0, 1), (543, .iload 4, 2), (545, .iconst 4, 1), (546, .iadd, 1), (547, .iaload, 1), (548, .invokevirtual 61, 3), (551, .pop, 1), (552, .goto 1312, 3), (555, .aload_n 1, 1), (556, .aload_n 0, 1), (557, .iload 4, 2), (559, .iconst 1, 1), (560, .iadd, 1), (561, .iaload, 1), (562, .invokevirtual 62, 3), (565, .pop, 1), (566, .aload_n 2, 1), (567, .aload_n 0, 1), (568, .iload 4, 2), (570, .iconst 1, 1), (571, .iadd, 1), (572, .iaload, 1), (573, .invokevirtual 66, 3), (576, .pop, 1), (577, .goto 1287, 3), (580, .aload_n 1, 1), (581, .aload_n 0, 1), (582, .iload 4, 2), (584, .iconst 1, 1), (585, .iadd, 1), (586, .iaload, 1), (587, .aload_n 0, 1), (588, .iload 4, 2), (590, .iconst 2, 1), (591, .iadd, 1), (592, .iaload, 1), (593, .aload_n 0, 1), (594, .iload 4, 2), (596, .iconst 3, 1), (597, .iadd, 1), (598, .iaload, 1), (599, .aload_n 0, 1), (600, .iload 4, 2), (602, .iconst 4, 1), (603, .iadd, 1), (604, .iaload, 1), (605, .aload_n 0, 1), (606, .iload 4, 2), (608, .iconst 5, 1)]) (by decide +kernel)
theorem dL_law_524 : decode cL_law 524 = .ok (.aload_n 0, 1) := row_of dLc_524 0 rfl rfl
theorem dL_law_525 : decode cL_law 525 = .ok (.iload 4, 2) := row_of dLc_524 1 rfl rfl
theorem dL_law_527 : decode cL_law 527 = .ok (.iconst 1, 1) := row_of dLc_524 2 rfl rfl
theorem dL_law_528 : decode cL_law 528 = .ok (.iadd, 1) := row_of dLc_524 3 rfl rfl
theorem dL_law_529 : decode cL_law 529 = .ok (.iaload, 1) := row_of dLc_524 4 rfl rfl
theorem dL_law_530 : decode cL_law 530 = .ok (.aload_n 0, 1) := row_of dLc_524 5 rfl rfl
theorem dL_law_531 : decode cL_law 531 = .ok (.iload 4, 2) := row_of dLc_524 6 rfl rfl
theorem dL_law_533 : decode cL_law 533 = .ok (.iconst 2, 1) := row_of dLc_524 7 rfl rfl
theorem dL_law_534 : decode cL_law 534 = .ok (.iadd, 1) := row_of dLc_524 8 rfl rfl
theorem dL_law_535 : decode cL_law 535 = .ok (.iaload, 1) := row_of dLc_524 9 rfl rfl
theorem dL_law_536 : decode cL_law 536 = .ok (.aload_n 0, 1) := row_of dLc_524 10 rfl rfl
theorem dL_law_537 : decode cL_law 537 = .ok (.iload 4, 2) := row_of dLc_524 11 rfl rfl
theorem dL_law_539 : decode cL_law 539 = .ok (.iconst 3, 1) := row_of dLc_524 12 rfl rfl
theorem dL_law_540 : decode cL_law 540 = .ok (.iadd, 1) := row_of dLc_524 13 rfl rfl
theorem dL_law_541 : decode cL_law 541 = .ok (.iaload, 1) := row_of dLc_524 14 rfl rfl
theorem dL_law_542 : decode cL_law 542 = .ok (.aload_n 0, 1) := row_of dLc_524 15 rfl rfl
theorem dL_law_543 : decode cL_law 543 = .ok (.iload 4, 2) := row_of dLc_524 16 rfl rfl
theorem dL_law_545 : decode cL_law 545 = .ok (.iconst 4, 1) := row_of dLc_524 17 rfl rfl
theorem dL_law_546 : decode cL_law 546 = .ok (.iadd, 1) := row_of dLc_524 18 rfl rfl
theorem dL_law_547 : decode cL_law 547 = .ok (.iaload, 1) := row_of dLc_524 19 rfl rfl
theorem dL_law_548 : decode cL_law 548 = .ok (.invokevirtual 61, 3) := row_of dLc_524 20 rfl rfl
theorem dL_law_551 : decode cL_law 551 = .ok (.pop, 1) := row_of dLc_524 21 rfl rfl
theorem dL_law_552 : decode cL_law 552 = .ok (.goto 1312, 3) := row_of dLc_524 22 rfl rfl
theorem dL_law_555 : decode cL_law 555 = .ok (.aload_n 1, 1) := row_of dLc_524 23 rfl rfl
theorem dL_law_556 : decode cL_law 556 = .ok (.aload_n 0, 1) := row_of dLc_524 24 rfl rfl
theorem dL_law_557 : decode cL_law 557 = .ok (.iload 4, 2) := row_of dLc_524 25 rfl rfl
theorem dL_law_559 : decode cL_law 559 = .ok (.iconst 1, 1) := row_of dLc_524 26 rfl rfl
theorem dL_law_560 : decode cL_law 560 = .ok (.iadd, 1) := row_of dLc_524 27 rfl rfl
theorem dL_law_561 : decode cL_law 561 = .ok (.iaload, 1) := row_of dLc_524 28 rfl rfl
theorem dL_law_562 : decode cL_law 562 = .ok (.invokevirtual 62, 3) := row_of dLc_524 29 rfl rfl
theorem dL_law_565 : decode cL_law 565 = .ok (.pop, 1) := row_of dLc_524 30 rfl rfl
theorem dL_law_566 : decode cL_law 566 = .ok (.aload_n 2, 1) := row_of dLc_524 31 rfl rfl
theorem dL_law_567 : decode cL_law 567 = .ok (.aload_n 0, 1) := row_of dLc_524 32 rfl rfl
theorem dL_law_568 : decode cL_law 568 = .ok (.iload 4, 2) := row_of dLc_524 33 rfl rfl
theorem dL_law_570 : decode cL_law 570 = .ok (.iconst 1, 1) := row_of dLc_524 34 rfl rfl
theorem dL_law_571 : decode cL_law 571 = .ok (.iadd, 1) := row_of dLc_524 35 rfl rfl
theorem dL_law_572 : decode cL_law 572 = .ok (.iaload, 1) := row_of dLc_524 36 rfl rfl
theorem dL_law_573 : decode cL_law 573 = .ok (.invokevirtual 66, 3) := row_of dLc_524 37 rfl rfl
theorem dL_law_576 : decode cL_law 576 = .ok (.pop, 1) := row_of dLc_524 38 rfl rfl
theorem dL_law_577 : decode cL_law 577 = .ok (.goto 1287, 3) := row_of dLc_524 39 rfl rfl
theorem dL_law_580 : decode cL_law 580 = .ok (.aload_n 1, 1) := row_of dLc_524 40 rfl rfl
theorem dL_law_581 : decode cL_law 581 = .ok (.aload_n 0, 1) := row_of dLc_524 41 rfl rfl
theorem dL_law_582 : decode cL_law 582 = .ok (.iload 4, 2) := row_of dLc_524 42 rfl rfl
theorem dL_law_584 : decode cL_law 584 = .ok (.iconst 1, 1) := row_of dLc_524 43 rfl rfl
theorem dL_law_585 : decode cL_law 585 = .ok (.iadd, 1) := row_of dLc_524 44 rfl rfl
theorem dL_law_586 : decode cL_law 586 = .ok (.iaload, 1) := row_of dLc_524 45 rfl rfl
theorem dL_law_587 : decode cL_law 587 = .ok (.aload_n 0, 1) := row_of dLc_524 46 rfl rfl
theorem dL_law_588 : decode cL_law 588 = .ok (.iload 4, 2) := row_of dLc_524 47 rfl rfl
theorem dL_law_590 : decode cL_law 590 = .ok (.iconst 2, 1) := row_of dLc_524 48 rfl rfl
theorem dL_law_591 : decode cL_law 591 = .ok (.iadd, 1) := row_of dLc_524 49 rfl rfl
theorem dL_law_592 : decode cL_law 592 = .ok (.iaload, 1) := row_of dLc_524 50 rfl rfl
theorem dL_law_593 : decode cL_law 593 = .ok (.aload_n 0, 1) := row_of dLc_524 51 rfl rfl
theorem dL_law_594 : decode cL_law 594 = .ok (.iload 4, 2) := row_of dLc_524 52 rfl rfl
theorem dL_law_596 : decode cL_law 596 = .ok (.iconst 3, 1) := row_of dLc_524 53 rfl rfl
theorem dL_law_597 : decode cL_law 597 = .ok (.iadd, 1) := row_of dLc_524 54 rfl rfl
theorem dL_law_598 : decode cL_law 598 = .ok (.iaload, 1) := row_of dLc_524 55 rfl rfl
theorem dL_law_599 : decode cL_law 599 = .ok (.aload_n 0, 1) := row_of dLc_524 56 rfl rfl
theorem dL_law_600 : decode cL_law 600 = .ok (.iload 4, 2) := row_of dLc_524 57 rfl rfl
theorem dL_law_602 : decode cL_law 602 = .ok (.iconst 4, 1) := row_of dLc_524 58 rfl rfl
theorem dL_law_603 : decode cL_law 603 = .ok (.iadd, 1) := row_of dLc_524 59 rfl rfl
theorem dL_law_604 : decode cL_law 604 = .ok (.iaload, 1) := row_of dLc_524 60 rfl rfl
theorem dL_law_605 : decode cL_law 605 = .ok (.aload_n 0, 1) := row_of dLc_524 61 rfl rfl
theorem dL_law_606 : decode cL_law 606 = .ok (.iload 4, 2) := row_of dLc_524 62 rfl rfl
theorem dL_law_608 : decode cL_law 608 = .ok (.iconst 5, 1) := row_of dLc_524 63 rfl rfl
theorem dLc_609 : List.map (decode cL_law) [609, 610, 611, 614, 615, 616, 617, 619, 620, 621, 622, 623, 625, 626, 627, 628, 629, 631, 632, 633, 634, 635, 637, 638, 639, 640, 641, 643, 644, 645, 646, 649, 650, 653, 654, 655, 657, 658, 659, 660, 661, 663, 664, 665, 666, 669, 670, 671, 672, 674, 675, 676, 677, 678, 680, 681, 682, 683, 686, 687, 690, 691, 692, 694] = [.ok (.iadd, 1), .ok (.iaload, 1), .ok (.invokevirtual 67, 3), .ok (.pop, 1), .ok (.aload_n 2, 1), .ok (.aload_n 0, 1), .ok (.iload 4, 2), .ok (.iconst 1, 1), .ok (.iadd, 1), .ok (.iaload, 1), .ok (.aload_n 0, 1), .ok (.iload 4, 2), .ok (.iconst 2, 1), .ok (.iadd, 1), .ok (.iaload, 1), .ok (.aload_n 0, 1), .ok (.iload 4, 2), .ok (.iconst 3, 1), .ok (.iadd, 1), .ok (.iaload, 1), .ok (.aload_n 0, 1), .ok (.iload 4, 2), .ok (.iconst 4, 1), .ok (.iadd, 1), .ok (.iaload, 1), .ok (.aload_n 0, 1), .ok (.iload 4, 2), .ok (.iconst 5, 1), .ok (.iadd, 1), .ok (.iaload, 1), .ok (.invokevirtual 70, 3), .ok (.pop, 1), .ok (.goto 1214, 3), .ok (.aload_n 1, 1), .ok (.aload_n 0, 1), .ok (.iload 4, 2), .ok (.iconst 1, 1), .ok (.iadd, 1), .ok (.iaload, 1), .ok (.aload_n 0, 1), .ok (.iload 4, 2), .ok (.iconst 2, 1), .ok (.iadd, 1), .ok (.iaload, 1), .ok (.invokevirtual 71, 3), .ok (.pop, 1), .ok (.aload_n 2, 1), .ok (.aload_n 0, 1), .ok (.iload 4, 2), .ok (.iconst 1, 1), .ok (.iadd, 1), .ok (.iaload, 1), .ok (.aload_n 0, 1), .ok (.iload 4, 2), .ok (.iconst 2, 1), .ok (.iadd, 1), .ok (.iaload, 1), .ok (.invokevirtual 74, 3), .ok (.pop, 1), .ok (.goto 1177, 3), .ok (.aload_n 1, 1), .ok (.aload_n 0, 1), .ok (.iload 4, 2), .ok (.iconst 1, 1)] := wk_map (t := [(609, .iadd, 1), (610, .iaload, 1), (611, .invokevirtual 67, 3), (614, .pop, 1), (615, .aload_n 2, 1), (616, .aload_n 0, 1), (617, .iload 4, 2), (619, .iconst 1, 1), (620, .iadd, 1), (621, .iaload, 1), (622, .aload_n 0, 1), (623, .iload 4, 2), (625, .iconst 2, 1), (626, .iadd, 1), (627, .iaload, 1), (628, .aload_n 0, 1), (629, .iload 4, 2), (631, .iconst 3, 1), (632, .iadd, 1), (633, .iaload, 1), (634, .aload_n 0, 1), (635, .iload 4, 2), (637, .iconst 4, 1), (638, .iadd, 1), (639, .iaload, 1), (640, .aload_n 0, 1), (641, .iload 4, 2), (643, .iconst 5, 1), (644, .iadd, 1), (645, .iaload, 1), (646, .invokevirtual 70, 3), (649, .pop, 1), (650, .goto 1214, 3), (653, .aload_n 1, 1), (654, .aload_n 0, 1), (655, .iload 4, 2), (657, .iconst 1, 1), (658, .iadd, 1), (659, .iaload, 1), (660, .aload_n 0, 1), (661, .iload 4, 2), (663, .iconst 2, 1), (664, .iadd, 1), (665, .iaload, 1), (666, .invokevirtual 71, 3), (669, .pop, 1), (670, .aload_n 2, 1), (671, .aload_n 0, 1), (672, .iload 4, 2), (674, .iconst 1, 1), (675, .iadd, 1), (676, .iaload, 1), (677, .aload_n 0, 1), (678, .iload 4, 2), (680, .iconst 2, 1), (681, .iadd, 1), (682, .iaload, 1), (683, .invokevirtual 74, 3), (686, .pop, 1), (687, .goto 1177, 3), (690, .aload_n 1, 1), (691, .aload_n 0, 1), (692, .iload 4, 2), (694, .iconst 1, 1)]) (by decide +kernel)
theorem dL_law_609 : decode cL_law 609 = .ok (.iadd, 1) := row_of dLc_609 0 rfl rfl
theorem dL_law_610 : decode cL_law 610 = .ok (.iaload, 1) := row_of dLc_609 1 rfl rfl
theorem dL_law_611 : decode cL_law 611 = .ok (.invokevirtual 67, 3) := row_of dLc_609 2 rfl rfl
theorem dL_law_614 : decode cL_law 614 = .ok (.pop, 1) := row_of dLc_609 3 rfl rfl
theorem dL_law_615 : decode cL_law 615 = .ok (.aload_n 2, 1) := row_of dLc_609 4 rfl rfl
theorem dL_law_616 : decode cL_law 616 = .ok (.aload_n 0, 1) := row_of dLc_609 5 rfl rfl
theorem dL_law_617 : decode cL_law 617 = .ok (.iload 4, 2) := row_of dLc_609 6 rfl rfl
theorem dL_law_619 : decode cL_law 619 = .ok (.iconst 1, 1) := row_of dLc_609 7 rfl rfl
theorem dL_law_620 : decode cL_law 620 = .ok (.iadd, 1) := row_of dLc_609 8 rfl rfl
theorem dL_law_621 : decode cL_law 621 = .ok (.iaload, 1) := row_of dLc_609 9 rfl rfl
theorem dL_law_622 : decode cL_law 622 = .ok (.aload_n 0, 1) := row_of dLc_609 10 rfl rfl
theorem dL_law_623 : decode cL_law 623 = .ok (.iload 4, 2) := row_of dLc_609 11 rfl rfl
theorem dL_law_625 : decode cL_law 625 = .ok (.iconst 2, 1) := row_of dLc_609 12 rfl rfl
theorem dL_law_626 : decode cL_law 626 = .ok (.iadd, 1) := row_of dLc_609 13 rfl rfl
theorem dL_law_627 : decode cL_law 627 = .ok (.iaload, 1) := row_of dLc_609 14 rfl rfl
theorem dL_law_628 : decode cL_law 628 = .ok (.aload_n 0, 1) := row_of dLc_609 15 rfl rfl
theorem dL_law_629 : decode cL_law 629 = .ok (.iload 4, 2) := row_of dLc_609 16 rfl rfl
theorem dL_law_631 : decode cL_law 631 = .ok (.iconst 3, 1) := row_of dLc_609 17 rfl rfl
theorem dL_law_632 : decode cL_law 632 = .ok (.iadd, 1) := row_of dLc_609 18 rfl rfl
theorem dL_law_633 : decode cL_law 633 = .ok (.iaload, 1) := row_of dLc_609 19 rfl rfl
theorem dL_law_634 : decode cL_law 634 = .ok (.aload_n 0, 1) := row_of dLc_609 20 rfl rfl
theorem dL_law_635 : decode cL_law 635 = .ok (.iload 4, 2) := row_of dLc_609 21 rfl rfl
theorem dL_law_637 : decode cL_law 637 = .ok (.iconst 4, 1) := row_of dLc_609 22 rfl rfl
theorem dL_law_638 : decode cL_law 638 = .ok (.iadd, 1) := row_of dLc_609 23 rfl rfl
theorem dL_law_639 : decode cL_law 639 = .ok (.iaload, 1) := row_of dLc_609 24 rfl rfl
theorem dL_law_640 : decode cL_law 640 = .ok (.aload_n 0, 1) := row_of dLc_609 25 rfl rfl
theorem dL_law_641 : decode cL_law 641 = .ok (.iload 4, 2) := row_of dLc_609 26 rfl rfl
theorem dL_law_643 : decode cL_law 643 = .ok (.iconst 5, 1) := row_of dLc_609 27 rfl rfl
theorem dL_law_644 : decode cL_law 644 = .ok (.iadd, 1) := row_of dLc_609 28 rfl rfl
theorem dL_law_645 : decode cL_law 645 = .ok (.iaload, 1) := row_of dLc_609 29 rfl rfl
theorem dL_law_646 : decode cL_law 646 = .ok (.invokevirtual 70, 3) := row_of dLc_609 30 rfl rfl
theorem dL_law_649 : decode cL_law 649 = .ok (.pop, 1) := row_of dLc_609 31 rfl rfl
theorem dL_law_650 : decode cL_law 650 = .ok (.goto 1214, 3) := row_of dLc_609 32 rfl rfl
theorem dL_law_653 : decode cL_law 653 = .ok (.aload_n 1, 1) := row_of dLc_609 33 rfl rfl
theorem dL_law_654 : decode cL_law 654 = .ok (.aload_n 0, 1) := row_of dLc_609 34 rfl rfl
theorem dL_law_655 : decode cL_law 655 = .ok (.iload 4, 2) := row_of dLc_609 35 rfl rfl
theorem dL_law_657 : decode cL_law 657 = .ok (.iconst 1, 1) := row_of dLc_609 36 rfl rfl
theorem dL_law_658 : decode cL_law 658 = .ok (.iadd, 1) := row_of dLc_609 37 rfl rfl
theorem dL_law_659 : decode cL_law 659 = .ok (.iaload, 1) := row_of dLc_609 38 rfl rfl
theorem dL_law_660 : decode cL_law 660 = .ok (.aload_n 0, 1) := row_of dLc_609 39 rfl rfl
theorem dL_law_661 : decode cL_law 661 = .ok (.iload 4, 2) := row_of dLc_609 40 rfl rfl
theorem dL_law_663 : decode cL_law 663 = .ok (.iconst 2, 1) := row_of dLc_609 41 rfl rfl
theorem dL_law_664 : decode cL_law 664 = .ok (.iadd, 1) := row_of dLc_609 42 rfl rfl
theorem dL_law_665 : decode cL_law 665 = .ok (.iaload, 1) := row_of dLc_609 43 rfl rfl
theorem dL_law_666 : decode cL_law 666 = .ok (.invokevirtual 71, 3) := row_of dLc_609 44 rfl rfl
theorem dL_law_669 : decode cL_law 669 = .ok (.pop, 1) := row_of dLc_609 45 rfl rfl
theorem dL_law_670 : decode cL_law 670 = .ok (.aload_n 2, 1) := row_of dLc_609 46 rfl rfl
theorem dL_law_671 : decode cL_law 671 = .ok (.aload_n 0, 1) := row_of dLc_609 47 rfl rfl
theorem dL_law_672 : decode cL_law 672 = .ok (.iload 4, 2) := row_of dLc_609 48 rfl rfl
theorem dL_law_674 : decode cL_law 674 = .ok (.iconst 1, 1) := row_of dLc_609 49 rfl rfl
theorem dL_law_675 : decode cL_law 675 = .ok (.iadd, 1) := row_of dLc_609 50 rfl rfl
theorem dL_law_676 : decode cL_law 676 = .ok (.iaload, 1) := row_of dLc_609 51 rfl rfl
theorem dL_law_677 : decode cL_law 677 = .ok (.aload_n 0, 1) := row_of dLc_609 52 rfl rfl
theorem dL_law_678 : decode cL_law 678 = .ok (.iload 4, 2) := row_of dLc_609 53 rfl rfl
theorem dL_law_680 : decode cL_law 680 = .ok (.iconst 2, 1) := row_of dLc_609 54 rfl rfl
theorem dL_law_681 : decode cL_law 681 = .ok (.iadd, 1) := row_of dLc_609 55 rfl rfl
theorem dL_law_682 : decode cL_law 682 = .ok (.iaload, 1) := row_of dLc_609 56 rfl rfl
theorem dL_law_683 : decode cL_law 683 = .ok (.invokevirtual 74, 3) := row_of dLc_609 57 rfl rfl
theorem dL_law_686 : decode cL_law 686 = .ok (.pop, 1) := row_of dLc_609 58 rfl rfl
theorem dL_law_687 : decode cL_law 687 = .ok (.goto 1177, 3) := row_of dLc_609 59 rfl rfl
theorem dL_law_690 : decode cL_law 690 = .ok (.aload_n 1, 1) := row_of dLc_609 60 rfl rfl
theorem dL_law_691 : decode cL_law 691 = .ok (.aload_n 0, 1) := row_of dLc_609 61 rfl rfl
theorem dL_law_692 : decode cL_law 692 = .ok (.iload 4, 2) := row_of dLc_609 62 rfl rfl
theorem dL_law_694 : decode cL_law 694 = .ok (.iconst 1, 1) := row_of dLc_609 63 rfl rfl
theorem dLc_695 : List.map (decode cL_law) [695, 696, 697, 700, 701, 702, 703, 705, 706, 707, 708, 711, 712, 715, 716, 717, 719, 720, 721, 722, 723, 725, 726, 727, 728, 729, 731, 732, 733, 734, 737, 738, 739, 740, 742, 743, 744, 745, 746, 748, 749, 750, 751, 752, 754, 755, 756, 757, 760, 761, 764, 765, 766, 768, 769, 770, 771, 772, 774, 775, 776, 777, 778, 780] = [.ok (.iadd, 1), .ok (.iaload, 1), .ok (.invokevirtual 75, 3), .ok (.pop, 1), .ok (.aload_n 2, 1), .ok (.aload_n 0, 1), .ok (.iload 4, 2), .ok (.iconst 1, 1), .ok (.iadd, 1), .ok (.iaload, 1), .ok (.invokevirtual 78, 3), .ok (.pop, 1), .ok (.goto 1152, 3), .ok (.aload_n 1, 1), .ok (.aload_n 0, 1), .ok (.iload 4, 2), .ok (.iconst 1, 1), .ok (.iadd, 1), .ok (.iaload, 1), .ok (.aload_n 0, 1), .ok (.iload 4, 2), .ok (.iconst 2, 1), .ok (.iadd, 1), .ok (.iaload, 1), .ok (.aload_n 0, 1), .ok (.iload 4, 2), .ok (.iconst 3, 1), .ok (.iadd, 1), .ok (.iaload, 1), .ok (.invokevirtual 79, 3), .ok (.pop, 1), .ok (.aload_n 2, 1), .ok (.aload_n 0, 1), .ok (.iload 4, 2), .ok (.iconst 1, 1), .ok (.iadd, 1), .ok (.iaload, 1), .ok (.aload_n 0, 1), .ok (.iload 4, 2), .ok (.iconst 2, 1), .ok (.iadd, 1), .ok (.iaload, 1), .ok (.aload_n 0, 1), .ok (.iload 4, 2), .ok (.iconst 3, 1), .ok (.iadd, 1), .ok (.iaload, 1), .ok (.invokevirtual 82, 3), .ok (.pop, 1), .ok (.goto 1103, 3), .ok (.aload_n 1, 1), .ok (.aload_n 0, 1), .ok (.iload 4, 2), .ok (.iconst 1, 1), .ok (.iadd, 1), .ok (.iaload, 1), .ok (.aload_n 0, 1), .ok (.iload 4, 2), .ok (.iconst 2, 1), .ok (.iadd, 1), .ok (.iaload, 1), .ok (.aload_n 0, 1), .ok (.iload 4, 2), .ok (.iconst 3, 1)] := wk_map (t := [(695, .iadd, 1), (696, .iaload, 1), (697, .invokevirtual 75, 3), (700, .pop, 1), (701, .aload_n 2, 1), (702, .aload_n 0, 1), (703, .iload 4, 2), (705, .iconst 1, 1), (706, .iadd, 1), (707, .iaload, 1), (708, .invokevirtual 78, 3), (711, .pop, 1), (712, .goto 1152, 3), (715, .aload_n 1, 1), (716, .aload_n 0, 1), (717, .iload 4, 2), (719, .iconst 1, 1), (720, .iadd, 1), (721, .iaload, 1), (722, .aload_n 0, 1), (723, .iload 4, 2), (725, .iconst 2, 1), (726, .iadd, 1), (727, .iaload, 1), (728, .aload_n 0, 1), (729, .iload 4, 2), (731, .iconst 3, 1), (732, .iadd, 1), (733, .iaload, 1), (734, .invokevirtual 79, 3), (737, .pop, 1), (738, .aload_n 2, 1), (739, .aload_n 0, 1), (740, .iload 4, 2), (742, .iconst 1, 1), (743, .iadd, 1), (744, .iaload, 1), (745, .aload_n 0, 1), (746, .iload 4, 2), (748, .iconst 2, 1), (749, .iadd, 1), (750, .iaload, 1), (751, .aload_n 0, 1), (752, .iload 4, 2), (754, .iconst 3, 1), (755, .iadd, 1), (756, .iaload, 1), (757, .invokevirtual 82, 3), (760, .pop, 1), (761, .goto 1103, 3), (764, .aload_n 1, 1), (765, .aload_n 0, 1), (766, .iload 4, 2), (768, .iconst 1, 1), (769, .iadd, 1), (770, .iaload, 1), (771, .aload_n 0, 1), (772, .iload 4, 2), (774, .iconst 2, 1), (775, .iadd, 1), (776, .iaload, 1), (777, .aload_n 0, 1), (778, .iload 4, 2), (780, .iconst 3, 1)]) (by decide +kernel)
theorem dL_law_695 : decode cL_law 695 = .ok (.iadd, 1) := row_of dLc_695 0 rfl rfl
theorem dL_law_696 : decode cL_law 696 = .ok (.iaload, 1) := row_of dLc_695 1 rfl rfl
theorem dL_law_697 : decode cL_law 697 = .ok (.invokevirtual 75, 3) := row_of dLc_695 2 rfl rfl
theorem dL_law_700 : decode cL_law 700 = .ok (.pop, 1) := row_of dLc_695 3 rfl rfl
theorem dL_law_701 : decode cL_law 701 = .ok (.aload_n 2, 1) := row_of dLc_695 4 rfl rfl
theorem dL_law_702 : decode cL_law 702 = .ok (.aload_n 0, 1) := row_of dLc_695 5 rfl rfl
theorem dL_law_703 : decode cL_law 703 = .ok (.iload 4, 2) := row_of dLc_695 6 rfl rfl
theorem dL_law_705 : decode cL_law 705 = .ok (.iconst 1, 1) := row_of dLc_695 7 rfl rfl
theorem dL_law_706 : decode cL_law 706 = .ok (.iadd, 1) := row_of dLc_695 8 rfl rfl
theorem dL_law_707 : decode cL_law 707 = .ok (.iaload, 1) := row_of dLc_695 9 rfl rfl
theorem dL_law_708 : decode cL_law 708 = .ok (.invokevirtual 78, 3) := row_of dLc_695 10 rfl rfl
theorem dL_law_711 : decode cL_law 711 = .ok (.pop, 1) := row_of dLc_695 11 rfl rfl
theorem dL_law_712 : decode cL_law 712 = .ok (.goto 1152, 3) := row_of dLc_695 12 rfl rfl
theorem dL_law_715 : decode cL_law 715 = .ok (.aload_n 1, 1) := row_of dLc_695 13 rfl rfl
theorem dL_law_716 : decode cL_law 716 = .ok (.aload_n 0, 1) := row_of dLc_695 14 rfl rfl
theorem dL_law_717 : decode cL_law 717 = .ok (.iload 4, 2) := row_of dLc_695 15 rfl rfl
theorem dL_law_719 : decode cL_law 719 = .ok (.iconst 1, 1) := row_of dLc_695 16 rfl rfl
theorem dL_law_720 : decode cL_law 720 = .ok (.iadd, 1) := row_of dLc_695 17 rfl rfl
theorem dL_law_721 : decode cL_law 721 = .ok (.iaload, 1) := row_of dLc_695 18 rfl rfl
theorem dL_law_722 : decode cL_law 722 = .ok (.aload_n 0, 1) := row_of dLc_695 19 rfl rfl
theorem dL_law_723 : decode cL_law 723 = .ok (.iload 4, 2) := row_of dLc_695 20 rfl rfl
theorem dL_law_725 : decode cL_law 725 = .ok (.iconst 2, 1) := row_of dLc_695 21 rfl rfl
theorem dL_law_726 : decode cL_law 726 = .ok (.iadd, 1) := row_of dLc_695 22 rfl rfl
theorem dL_law_727 : decode cL_law 727 = .ok (.iaload, 1) := row_of dLc_695 23 rfl rfl
theorem dL_law_728 : decode cL_law 728 = .ok (.aload_n 0, 1) := row_of dLc_695 24 rfl rfl
theorem dL_law_729 : decode cL_law 729 = .ok (.iload 4, 2) := row_of dLc_695 25 rfl rfl
theorem dL_law_731 : decode cL_law 731 = .ok (.iconst 3, 1) := row_of dLc_695 26 rfl rfl
theorem dL_law_732 : decode cL_law 732 = .ok (.iadd, 1) := row_of dLc_695 27 rfl rfl
theorem dL_law_733 : decode cL_law 733 = .ok (.iaload, 1) := row_of dLc_695 28 rfl rfl
theorem dL_law_734 : decode cL_law 734 = .ok (.invokevirtual 79, 3) := row_of dLc_695 29 rfl rfl
theorem dL_law_737 : decode cL_law 737 = .ok (.pop, 1) := row_of dLc_695 30 rfl rfl
theorem dL_law_738 : decode cL_law 738 = .ok (.aload_n 2, 1) := row_of dLc_695 31 rfl rfl
theorem dL_law_739 : decode cL_law 739 = .ok (.aload_n 0, 1) := row_of dLc_695 32 rfl rfl
theorem dL_law_740 : decode cL_law 740 = .ok (.iload 4, 2) := row_of dLc_695 33 rfl rfl
theorem dL_law_742 : decode cL_law 742 = .ok (.iconst 1, 1) := row_of dLc_695 34 rfl rfl
theorem dL_law_743 : decode cL_law 743 = .ok (.iadd, 1) := row_of dLc_695 35 rfl rfl
theorem dL_law_744 : decode cL_law 744 = .ok (.iaload, 1) := row_of dLc_695 36 rfl rfl
theorem dL_law_745 : decode cL_law 745 = .ok (.aload_n 0, 1) := row_of dLc_695 37 rfl rfl
theorem dL_law_746 : decode cL_law 746 = .ok (.iload 4, 2) := row_of dLc_695 38 rfl rfl
theorem dL_law_748 : decode cL_law 748 = .ok (.iconst 2, 1) := row_of dLc_695 39 rfl rfl
theorem dL_law_749 : decode cL_law 749 = .ok (.iadd, 1) := row_of dLc_695 40 rfl rfl
theorem dL_law_750 : decode cL_law 750 = .ok (.iaload, 1) := row_of dLc_695 41 rfl rfl
theorem dL_law_751 : decode cL_law 751 = .ok (.aload_n 0, 1) := row_of dLc_695 42 rfl rfl
theorem dL_law_752 : decode cL_law 752 = .ok (.iload 4, 2) := row_of dLc_695 43 rfl rfl
theorem dL_law_754 : decode cL_law 754 = .ok (.iconst 3, 1) := row_of dLc_695 44 rfl rfl
theorem dL_law_755 : decode cL_law 755 = .ok (.iadd, 1) := row_of dLc_695 45 rfl rfl
theorem dL_law_756 : decode cL_law 756 = .ok (.iaload, 1) := row_of dLc_695 46 rfl rfl
theorem dL_law_757 : decode cL_law 757 = .ok (.invokevirtual 82, 3) := row_of dLc_695 47 rfl rfl
theorem dL_law_760 : decode cL_law 760 = .ok (.pop, 1) := row_of dLc_695 48 rfl rfl
theorem dL_law_761 : decode cL_law 761 = .ok (.goto 1103, 3) := row_of dLc_695 49 rfl rfl
theorem dL_law_764 : decode cL_law 764 = .ok (.aload_n 1, 1) := row_of dLc_695 50 rfl rfl
theorem dL_law_765 : decode cL_law 765 = .ok (.aload_n 0, 1) := row_of dLc_695 51 rfl rfl
theorem dL_law_766 : decode cL_law 766 = .ok (.iload 4, 2) := row_of dLc_695 52 rfl rfl
theorem dL_law_768 : decode cL_law 768 = .ok (.iconst 1, 1) := row_of dLc_695 53 rfl rfl
theorem dL_law_769 : decode cL_law 769 = .ok (.iadd, 1) := row_of dLc_695 54 rfl rfl
theorem dL_law_770 : decode cL_law 770 = .ok (.iaload, 1) := row_of dLc_695 55 rfl rfl
theorem dL_law_771 : decode cL_law 771 = .ok (.aload_n 0, 1) := row_of dLc_695 56 rfl rfl
theorem dL_law_772 : decode cL_law 772 = .ok (.iload 4, 2) := row_of dLc_695 57 rfl rfl
theorem dL_law_774 : decode cL_law 774 = .ok (.iconst 2, 1) := row_of dLc_695 58 rfl rfl
theorem dL_law_775 : decode cL_law 775 = .ok (.iadd, 1) := row_of dLc_695 59 rfl rfl
theorem dL_law_776 : decode cL_law 776 = .ok (.iaload, 1) := row_of dLc_695 60 rfl rfl
theorem dL_law_777 : decode cL_law 777 = .ok (.aload_n 0, 1) := row_of dLc_695 61 rfl rfl
theorem dL_law_778 : decode cL_law 778 = .ok (.iload 4, 2) := row_of dLc_695 62 rfl rfl
theorem dL_law_780 : decode cL_law 780 = .ok (.iconst 3, 1) := row_of dLc_695 63 rfl rfl
theorem dLc_781 : List.map (decode cL_law) [781, 782, 783, 786, 787, 788, 789, 791, 792, 793, 794, 795, 797, 798, 799, 800, 801, 803, 804, 805, 806, 809, 810, 813, 814, 815, 817, 818, 819, 820, 821, 823, 824, 825, 826, 829, 830, 831, 832, 834, 835, 836, 837, 838, 840, 841, 842, 843, 846, 847, 850, 851, 852, 854, 855, 856, 857, 858, 860, 861, 862, 863, 864, 866] = [.ok (.iadd, 1), .ok (.iaload, 1), .ok (.invokevirtual 83, 3), .ok (.pop, 1), .ok (.aload_n 2, 1), .ok (.aload_n 0, 1), .ok (.iload 4, 2), .ok (.iconst 1, 1), .ok (.iadd, 1), .ok (.iaload, 1), .ok (.aload_n 0, 1), .ok (.iload 4, 2), .ok (.iconst 2, 1), .ok (.iadd, 1), .ok (.iaload, 1), .ok (.aload_n 0, 1), .ok (.iload 4, 2), .ok (.iconst 3, 1), .ok (.iadd, 1), .ok (.iaload, 1), .ok (.invokevirtual 86, 3), .ok (.pop, 1), .ok (.goto 1054, 3), .ok (.aload_n 1, 1), .ok (.aload_n 0, 1), .ok (.iload 4, 2), .ok (.iconst 1, 1), .ok (.iadd, 1), .ok (.iaload, 1), .ok (.aload_n 0, 1), .ok (.iload 4, 2), .ok (.iconst 2, 1), .ok (.iadd, 1), .ok (.iaload, 1), .ok (.invokevirtual 87, 3), .ok (.pop, 1), .ok (.aload_n 2, 1), .ok (.aload_n 0, 1), .ok (.iload 4, 2), .ok (.iconst 1, 1), .ok (.iadd, 1), .ok (.iaload, 1), .ok (.aload_n 0, 1), .ok (.iload 4, 2), .ok (.iconst 2, 1), .ok (.iadd, 1), .ok (.iaload, 1), .ok (.invokevirtual 90, 3), .ok (.pop, 1), .ok (.goto 1017, 3), .ok (.aload_n 1, 1), .ok (.aload_n 0, 1), .ok (.iload 4, 2), .ok (.iconst 1, 1), .ok (.iadd, 1), .ok (.iaload, 1), .ok (.aload_n 0, 1), .ok (.iload 4, 2), .ok (.iconst 2, 1), .ok (.iadd, 1), .ok (.iaload, 1), .ok (.aload_n 0, 1), .ok (.iload 4, 2), .ok (.iconst 3, 1)] := wk_map (t := [(781, .iadd, 1), (782, .iaload, 1), (783, .invokevirtual 83, 3), (786, .pop, 1), (787, .aload_n 2, 1), (788, .aload_n 0, 1), (789, .iload 4, 2), (791, .iconst 1, 1), (792, .iadd, 1), (793, .iaload, 1), (794, .aload_n 0, 1), (795, .iload 4, 2), (797, .iconst 2, 1), (798, .iadd, 1), (799, .iaload, 1), (800, .aload_n 0, 1), (801, .iload 4, 2), (803, .iconst 3, 1), (804, .iadd, 1), (805, .iaload, 1), (806, .invokevirtual 86, 3), (809, .pop, 1), (810, .goto 1054, 3), (813, .aload_n 1, 1), (814, .aload_n 0, 1), (815, .iload 4, 2), (817, .iconst 1, 1), (818, .iadd, 1), (819, .iaload, 1), (820, .aload_n 0, 1), (821, .iload 4, 2), (823, .iconst 2, 1), (824, .iadd, 1), (825, .iaload, 1), (826, .invokevirtual 87, 3), (829, .pop, 1), (830, .aload_n 2, 1), (831, .aload_n 0, 1), (832, .iload 4, 2), (834, .iconst 1, 1), (835, .iadd, 1), (836, .iaload, 1), (837, .aload_n 0, 1), (838, .iload 4, 2), (840, .iconst 2, 1), (841, .iadd, 1), (842, .iaload, 1), (843, .invokevirtual 90, 3), (846, .pop, 1), (847, .goto 1017, 3), (850, .aload_n 1, 1), (851, .aload_n 0, 1), (852, .iload 4, 2), (854, .iconst 1, 1), (855, .iadd, 1), (856, .iaload, 1), (857, .aload_n 0, 1), (858, .iload 4, 2), (860, .iconst 2, 1), (861, .iadd, 1), (862, .iaload, 1), (863, .aload_n 0, 1), (864, .iload 4, 2), (866, .iconst 3, 1)]) (by decide +kernel)
theorem dL_law_781 : decode cL_law 781 = .ok (.iadd, 1) := row_of dLc_781 0 rfl rfl
theorem dL_law_782 : decode cL_law 782 = .ok (.iaload, 1) := row_of dLc_781 1 rfl rfl
theorem dL_law_783 : decode cL_law 783 = .ok (.invokevirtual 83, 3) := row_of dLc_781 2 rfl rfl
theorem dL_law_786 : decode cL_law 786 = .ok (.pop, 1) := row_of dLc_781 3 rfl rfl
theorem dL_law_787 : decode cL_law 787 = .ok (.aload_n 2, 1) := row_of dLc_781 4 rfl rfl
theorem dL_law_788 : decode cL_law 788 = .ok (.aload_n 0, 1) := row_of dLc_781 5 rfl rfl
theorem dL_law_789 : decode cL_law 789 = .ok (.iload 4, 2) := row_of dLc_781 6 rfl rfl
theorem dL_law_791 : decode cL_law 791 = .ok (.iconst 1, 1) := row_of dLc_781 7 rfl rfl
theorem dL_law_792 : decode cL_law 792 = .ok (.iadd, 1) := row_of dLc_781 8 rfl rfl
theorem dL_law_793 : decode cL_law 793 = .ok (.iaload, 1) := row_of dLc_781 9 rfl rfl
theorem dL_law_794 : decode cL_law 794 = .ok (.aload_n 0, 1) := row_of dLc_781 10 rfl rfl
theorem dL_law_795 : decode cL_law 795 = .ok (.iload 4, 2) := row_of dLc_781 11 rfl rfl
theorem dL_law_797 : decode cL_law 797 = .ok (.iconst 2, 1) := row_of dLc_781 12 rfl rfl
theorem dL_law_798 : decode cL_law 798 = .ok (.iadd, 1) := row_of dLc_781 13 rfl rfl
theorem dL_law_799 : decode cL_law 799 = .ok (.iaload, 1) := row_of dLc_781 14 rfl rfl
theorem dL_law_800 : decode cL_law 800 = .ok (.aload_n 0, 1) := row_of dLc_781 15 rfl rfl
theorem dL_law_801 : decode cL_law 801 = .ok (.iload 4, 2) := row_of dLc_781 16 rfl rfl
theorem dL_law_803 : decode cL_law 803 = .ok (.iconst 3, 1) := row_of dLc_781 17 rfl rfl
theorem dL_law_804 : decode cL_law 804 = .ok (.iadd, 1) := row_of dLc_781 18 rfl rfl
theorem dL_law_805 : decode cL_law 805 = .ok (.iaload, 1) := row_of dLc_781 19 rfl rfl
theorem dL_law_806 : decode cL_law 806 = .ok (.invokevirtual 86, 3) := row_of dLc_781 20 rfl rfl
theorem dL_law_809 : decode cL_law 809 = .ok (.pop, 1) := row_of dLc_781 21 rfl rfl
theorem dL_law_810 : decode cL_law 810 = .ok (.goto 1054, 3) := row_of dLc_781 22 rfl rfl
theorem dL_law_813 : decode cL_law 813 = .ok (.aload_n 1, 1) := row_of dLc_781 23 rfl rfl
theorem dL_law_814 : decode cL_law 814 = .ok (.aload_n 0, 1) := row_of dLc_781 24 rfl rfl
theorem dL_law_815 : decode cL_law 815 = .ok (.iload 4, 2) := row_of dLc_781 25 rfl rfl
theorem dL_law_817 : decode cL_law 817 = .ok (.iconst 1, 1) := row_of dLc_781 26 rfl rfl
theorem dL_law_818 : decode cL_law 818 = .ok (.iadd, 1) := row_of dLc_781 27 rfl rfl
theorem dL_law_819 : decode cL_law 819 = .ok (.iaload, 1) := row_of dLc_781 28 rfl rfl
theorem dL_law_820 : decode cL_law 820 = .ok (.aload_n 0, 1) := row_of dLc_781 29 rfl rfl
theorem dL_law_821 : decode cL_law 821 = .ok (.iload 4, 2) := row_of dLc_781 30 rfl rfl
theorem dL_law_823 : decode cL_law 823 = .ok (.iconst 2, 1) := row_of dLc_781 31 rfl rfl
theorem dL_law_824 : decode cL_law 824 = .ok (.iadd, 1) := row_of dLc_781 32 rfl rfl
theorem dL_law_825 : decode cL_law 825 = .ok (.iaload, 1) := row_of dLc_781 33 rfl rfl
theorem dL_law_826 : decode cL_law 826 = .ok (.invokevirtual 87, 3) := row_of dLc_781 34 rfl rfl
theorem dL_law_829 : decode cL_law 829 = .ok (.pop, 1) := row_of dLc_781 35 rfl rfl
theorem dL_law_830 : decode cL_law 830 = .ok (.aload_n 2, 1) := row_of dLc_781 36 rfl rfl
theorem dL_law_831 : decode cL_law 831 = .ok (.aload_n 0, 1) := row_of dLc_781 37 rfl rfl
theorem dL_law_832 : decode cL_law 832 = .ok (.iload 4, 2) := row_of dLc_781 38 rfl rfl
theorem dL_law_834 : decode cL_law 834 = .ok (.iconst 1, 1) := row_of dLc_781 39 rfl rfl
theorem dL_law_835 : decode cL_law 835 = .ok (.iadd, 1) := row_of dLc_781 40 rfl rfl
theorem dL_law_836 : decode cL_law 836 = .ok (.iaload, 1) := row_of dLc_781 41 rfl rfl
theorem dL_law_837 : decode cL_law 837 = .ok (.aload_n 0, 1) := row_of dLc_781 42 rfl rfl
theorem dL_law_838 : decode cL_law 838 = .ok (.iload 4, 2) := row_of dLc_781 43 rfl rfl
theorem dL_law_840 : decode cL_law 840 = .ok (.iconst 2, 1) := row_of dLc_781 44 rfl rfl
theorem dL_law_841 : decode cL_law 841 = .ok (.iadd, 1) := row_of dLc_781 45 rfl rfl
theorem dL_law_842 : decode cL_law 842 = .ok (.iaload, 1) := row_of dLc_781 46 rfl rfl
theorem dL_law_843 : decode cL_law 843 = .ok (.invokevirtual 90, 3) := row_of dLc_781 47 rfl rfl
theorem dL_law_846 : decode cL_law 846 = .ok (.pop, 1) := row_of dLc_781 48 rfl rfl
theorem dL_law_847 : decode cL_law 847 = .ok (.goto 1017, 3) := row_of dLc_781 49 rfl rfl
theorem dL_law_850 : decode cL_law 850 = .ok (.aload_n 1, 1) := row_of dLc_781 50 rfl rfl
theorem dL_law_851 : decode cL_law 851 = .ok (.aload_n 0, 1) := row_of dLc_781 51 rfl rfl
theorem dL_law_852 : decode cL_law 852 = .ok (.iload 4, 2) := row_of dLc_781 52 rfl rfl
theorem dL_law_854 : decode cL_law 854 = .ok (.iconst 1, 1) := row_of dLc_781 53 rfl rfl
theorem dL_law_855 : decode cL_law 855 = .ok (.iadd, 1) := row_of dLc_781 54 rfl rfl
theorem dL_law_856 : decode cL_law 856 = .ok (.iaload, 1) := row_of dLc_781 55 rfl rfl
theorem dL_law_857 : decode cL_law 857 = .ok (.aload_n 0, 1) := row_of dLc_781 56 rfl rfl
theorem dL_law_858 : decode cL_law 858 = .ok (.iload 4, 2) := row_of dLc_781 57 rfl rfl
theorem dL_law_860 : decode cL_law 860 = .ok (.iconst 2, 1) := row_of dLc_781 58 rfl rfl
theorem dL_law_861 : decode cL_law 861 = .ok (.iadd, 1) := row_of dLc_781 59 rfl rfl
theorem dL_law_862 : decode cL_law 862 = .ok (.iaload, 1) := row_of dLc_781 60 rfl rfl
theorem dL_law_863 : decode cL_law 863 = .ok (.aload_n 0, 1) := row_of dLc_781 61 rfl rfl
theorem dL_law_864 : decode cL_law 864 = .ok (.iload 4, 2) := row_of dLc_781 62 rfl rfl
theorem dL_law_866 : decode cL_law 866 = .ok (.iconst 3, 1) := row_of dLc_781 63 rfl rfl
theorem dLc_867 : List.map (decode cL_law) [867, 868, 869, 872, 873, 874, 875, 877, 878, 879, 880, 881, 883, 884, 885, 886, 887, 889, 890, 891, 892, 895, 896, 899, 900, 901, 903, 904, 905, 906, 907, 909, 910, 911, 912, 913, 915, 916, 917, 918, 919, 921, 922, 923, 924, 925, 927, 928, 929, 930, 933, 934, 935, 936, 938, 939, 940, 941, 942, 944, 945, 946, 947, 948] = [.ok (.iadd, 1), .ok (.iaload, 1), .ok (.invokevirtual 91, 3), .ok (.pop, 1), .ok (.aload_n 2, 1), .ok (.aload_n 0, 1), .ok (.iload 4, 2), .ok (.iconst 1, 1), .ok (.iadd, 1), .ok (.iaload, 1), .ok (.aload_n 0, 1), .ok (.iload 4, 2), .ok (.iconst 2, 1), .ok (.iadd, 1), .ok (.iaload, 1), .ok (.aload_n 0, 1), .ok (.iload 4, 2), .ok (.iconst 3, 1), .ok (.iadd, 1), .ok (.iaload, 1), .ok (.invokevirtual 94, 3), .ok (.pop, 1), .ok (.goto 968, 3), .ok (.aload_n 1, 1), .ok (.aload_n 0, 1), .ok (.iload 4, 2), .ok (.iconst 1, 1), .ok (.iadd, 1), .ok (.iaload, 1), .ok (.aload_n 0, 1), .ok (.iload 4, 2), .ok (.iconst 2, 1), .ok (.iadd, 1), .ok (.iaload, 1), .ok (.aload_n 0, 1), .ok (.iload 4, 2), .ok (.iconst 3, 1), .ok (.iadd, 1), .ok (.iaload, 1), .ok (.aload_n 0, 1), .ok (.iload 4, 2), .ok (.iconst 4, 1), .ok (.iadd, 1), .ok (.iaload, 1), .ok (.aload_n 0, 1), .ok (.iload 4, 2), .ok (.iconst 5, 1), .ok (.iadd, 1), .ok (.iaload, 1), .ok (.invokevirtual 95, 3), .ok (.pop, 1), .ok (.aload_n 2, 1), .ok (.aload_n 0, 1), .ok (.iload 4, 2), .ok (.iconst 1, 1), .ok (.iadd, 1), .ok (.iaload, 1), .ok (.aload_n 0, 1), .ok (.iload 4, 2), .ok (.iconst 2, 1), .ok (.iadd, 1), .ok (.iaload, 1), .ok (.aload_n 0, 1), .ok (.iload 4, 2)] := wk_map (t := [(867, .iadd, 1), (868, .iaload, 1), (869, .invokevirtual 91, 3), (872, .pop, 1), (873, .aload_n 2, 1), (874, .aload_n 0, 1), (875, .iload 4, 2), (877, .iconst 1, 1), (878, .iadd, 1), (879, .iaload, 1), (880, .aload_n 0, 1), (881, .iload 4, 2), (883, .iconst 2, 1), (884, .iadd, 1), (885, .iaload, 1), (886, .aload_n 0, 1), (887, .iload 4, 2), (889, .iconst 3, 1), (890, .iadd, 1), (891, .iaload, 1), (892, .invokevirtual 94, 3), (895, .pop, 1), (896, .goto 968, 3), (899, .aload_n 1, 1), (900, .aload_n 0, 1), (901, .iload 4, 2), (903, .iconst 1, 1), (904, .iadd, 1), (905, .iaload, 1), (906, .aload_n 0, 1), (907, .iload 4, 2), (909, .iconst 2, 1), (910, .iadd, 1), (911, .iaload, 1), (912, .aload_n 0, 1), (913, .iload 4, 2), (915, .iconst 3, 1), (916, .iadd, 1), (917, .iaload, 1), (918, .aload_n 0, 1), (919, .iload 4, 2), (921, .iconst 4, 1), (922, .iadd, 1), (923, .iaload, 1), (924, .aload_n 0, 1), (925, .iload 4, 2), (927, .iconst 5, 1), (928, .iadd, 1), (929, .iaload, 1), (930, .invokevirtual 95, 3), (933, .pop, 1), (934, .aload_n 2, 1), (935, .aload_n 0, 1), (936, .iload 4, 2), (938, .iconst 1, 1), (939, .iadd, 1), (940, .iaload, 1), (941, .aload_n 0, 1), (942, .iload 4, 2), (944, .iconst 2, 1), (945, .iadd, 1), (946, .iaload, 1), (947, .aload_n 0, 1), (948, .iload 4, 2)]) (by decide +kernel)
theorem dL_law_867 : decode cL_law 867 = .ok (.iadd, 1) := row_of dLc_867 0 rfl rfl
theorem dL_law_868 : decode cL_law 868 = .ok (.iaload, 1) := row_of dLc_867 1 rfl rfl
theorem dL_law_869 : decode cL_law 869 = .ok (.invokevirtual 91, 3) := row_of dLc_867 2 rfl rfl
theorem dL_law_872 : decode cL_law 872 = .ok (.pop, 1) := row_of dLc_867 3 rfl rfl
theorem dL_law_873 : decode cL_law 873 = .ok (.aload_n 2, 1) := row_of dLc_867 4 rfl rfl
theorem dL_law_874 : decode cL_law 874 = .ok (.aload_n 0, 1) := row_of dLc_867 5 rfl rfl
theorem dL_law_875 : decode cL_law 875 = .ok (.iload 4, 2) := row_of dLc_867 6 rfl rfl
theorem dL_law_877 : decode cL_law 877 = .ok (.iconst 1, 1) := row_of dLc_867 7 rfl rfl
theorem dL_law_878 : decode cL_law 878 = .ok (.iadd, 1) := row_of dLc_867 8 rfl rfl
theorem dL_law_879 : decode cL_law 879 = .ok (.iaload, 1) := row_of dLc_867 9 rfl rfl
theorem dL_law_880 : decode cL_law 880 = .ok (.aload_n 0, 1) := row_of dLc_867 10 rfl rfl
theorem dL_law_881 : decode cL_law 881 = .ok (.iload 4, 2) := row_of dLc_867 11 rfl rfl
theorem dL_law_883 : decode cL_law 883 = .ok (.iconst 2, 1) := row_of dLc_867 12 rfl rfl
theorem dL_law_884 : decode cL_law 884 = .ok (.iadd, 1) := row_of dLc_867 13 rfl rfl
theorem dL_law_885 : decode cL_law 885 = .ok (.iaload, 1) := row_of dLc_867 14 rfl rfl
theorem dL_law_886 : decode cL_law 886 = .ok (.aload_n 0, 1) := row_of dLc_867 15 rfl rfl
theorem dL_law_887 : decode cL_law 887 = .ok (.iload 4, 2) := row_of dLc_867 16 rfl rfl
theorem dL_law_889 : decode cL_law 889 = .ok (.iconst 3, 1) := row_of dLc_867 17 rfl rfl
theorem dL_law_890 : decode cL_law 890 = .ok (.iadd, 1) := row_of dLc_867 18 rfl rfl
theorem dL_law_891 : decode cL_law 891 = .ok (.iaload, 1) := row_of dLc_867 19 rfl rfl
theorem dL_law_892 : decode cL_law 892 = .ok (.invokevirtual 94, 3) := row_of dLc_867 20 rfl rfl
theorem dL_law_895 : decode cL_law 895 = .ok (.pop, 1) := row_of dLc_867 21 rfl rfl
theorem dL_law_896 : decode cL_law 896 = .ok (.goto 968, 3) := row_of dLc_867 22 rfl rfl
theorem dL_law_899 : decode cL_law 899 = .ok (.aload_n 1, 1) := row_of dLc_867 23 rfl rfl
theorem dL_law_900 : decode cL_law 900 = .ok (.aload_n 0, 1) := row_of dLc_867 24 rfl rfl
theorem dL_law_901 : decode cL_law 901 = .ok (.iload 4, 2) := row_of dLc_867 25 rfl rfl
theorem dL_law_903 : decode cL_law 903 = .ok (.iconst 1, 1) := row_of dLc_867 26 rfl rfl
theorem dL_law_904 : decode cL_law 904 = .ok (.iadd, 1) := row_of dLc_867 27 rfl rfl
theorem dL_law_905 : decode cL_law 905 = .ok (.iaload, 1) := row_of dLc_867 28 rfl rfl
theorem dL_law_906 : decode cL_law 906 = .ok (.aload_n 0, 1) := row_of dLc_867 29 rfl rfl
theorem dL_law_907 : decode cL_law 907 = .ok (.iload 4, 2) := row_of dLc_867 30 rfl rfl
theorem dL_law_909 : decode cL_law 909 = .ok (.iconst 2, 1) := row_of dLc_867 31 rfl rfl
theorem dL_law_910 : decode cL_law 910 = .ok (.iadd, 1) := row_of dLc_867 32 rfl rfl
theorem dL_law_911 : decode cL_law 911 = .ok (.iaload, 1) := row_of dLc_867 33 rfl rfl
theorem dL_law_912 : decode cL_law 912 = .ok (.aload_n 0, 1) := row_of dLc_867 34 rfl rfl
theorem dL_law_913 : decode cL_law 913 = .ok (.iload 4, 2) := row_of dLc_867 35 rfl rfl
theorem dL_law_915 : decode cL_law 915 = .ok (.iconst 3, 1) := row_of dLc_867 36 rfl rfl
theorem dL_law_916 : decode cL_law 916 = .ok (.iadd, 1) := row_of dLc_867 37 rfl rfl
theorem dL_law_917 : decode cL_law 917 = .ok (.iaload, 1) := row_of dLc_867 38 rfl rfl
theorem dL_law_918 : decode cL_law 918 = .ok (.aload_n 0, 1) := row_of dLc_867 39 rfl rfl
theorem dL_law_919 : decode cL_law 919 = .ok (.iload 4, 2) := row_of dLc_867 40 rfl rfl
theorem dL_law_921 : decode cL_law 921 = .ok (.iconst 4, 1) := row_of dLc_867 41 rfl rfl
theorem dL_law_922 : decode cL_law 922 = .ok (.iadd, 1) := row_of dLc_867 42 rfl rfl
theorem dL_law_923 : decode cL_law 923 = .ok (.iaload, 1) := row_of dLc_867 43 rfl rfl
theorem dL_law_924 : decode cL_law 924 = .ok (.aload_n 0, 1) := row_of dLc_867 44 rfl rfl
theorem dL_law_925 : decode cL_law 925 = .ok (.iload 4, 2) := row_of dLc_867 45 rfl rfl
theorem dL_law_927 : decode cL_law 927 = .ok (.iconst 5, 1) := row_of dLc_867 46 rfl rfl
theorem dL_law_928 : decode cL_law 928 = .ok (.iadd, 1) := row_of dLc_867 47 rfl rfl
theorem dL_law_929 : decode cL_law 929 = .ok (.iaload, 1) := row_of dLc_867 48 rfl rfl
theorem dL_law_930 : decode cL_law 930 = .ok (.invokevirtual 95, 3) := row_of dLc_867 49 rfl rfl
theorem dL_law_933 : decode cL_law 933 = .ok (.pop, 1) := row_of dLc_867 50 rfl rfl
theorem dL_law_934 : decode cL_law 934 = .ok (.aload_n 2, 1) := row_of dLc_867 51 rfl rfl
theorem dL_law_935 : decode cL_law 935 = .ok (.aload_n 0, 1) := row_of dLc_867 52 rfl rfl
theorem dL_law_936 : decode cL_law 936 = .ok (.iload 4, 2) := row_of dLc_867 53 rfl rfl
theorem dL_law_938 : decode cL_law 938 = .ok (.iconst 1, 1) := row_of dLc_867 54 rfl rfl
theorem dL_law_939 : decode cL_law 939 = .ok (.iadd, 1) := row_of dLc_867 55 rfl rfl
theorem dL_law_940 : decode cL_law 940 = .ok (.iaload, 1) := row_of dLc_867 56 rfl rfl
theorem dL_law_941 : decode cL_law 941 = .ok (.aload_n 0, 1) := row_of dLc_867 57 rfl rfl
theorem dL_law_942 : decode cL_law 942 = .ok (.iload 4, 2) := row_of dLc_867 58 rfl rfl
theorem dL_law_944 : decode cL_law 944 = .ok (.iconst 2, 1) := row_of dLc_867 59 rfl rfl
theorem dL_law_945 : decode cL_law 945 = .ok (.iadd, 1) := row_of dLc_867 60 rfl rfl
theorem dL_law_946 : decode cL_law 946 = .ok (.iaload, 1) := row_of dLc_867 61 rfl rfl
theorem dL_law_947 : decode cL_law 947 = .ok (.aload_n 0, 1) := row_of dLc_867 62 rfl rfl
theorem dL_law_948 : decode cL_law 948 = .ok (.iload 4, 2) := row_of dLc_867 63 rfl rfl
theorem dLc_950 : List.map (decode cL_law) [950, 951, 952, 953, 954, 956, 957, 958, 959, 960, 962, 963, 964, 965, 968, 969, 972, 973, 974, 976, 977, 978, 979, 980, 982, 983, 984, 985, 986, 988, 989, 990, 991, 992, 994, 995, 996, 997, 1000, 1001, 1002, 1003, 1005, 1006, 1007, 1008, 1009, 1011, 1012, 1013, 1014, 1015, 1017, 1018, 1019, 1020, 1021, 1023, 1024, 1025, 1026, 1029, 1030, 1033] = [.ok (.iconst 3, 1), .ok (.iadd, 1), .ok (.iaload, 1), .ok (.aload_n 0, 1), .ok (.iload 4, 2), .ok (.iconst 4, 1), .ok (.iadd, 1), .ok (.iaload, 1), .ok (.aload_n 0, 1), .ok (.iload 4, 2), .ok (.iconst 5, 1), .ok (.iadd, 1), .ok (.iaload, 1), .ok (.invokevirtual 98, 3), .ok (.pop, 1), .ok (.goto 895, 3), .ok (.aload_n 1, 1), .ok (.aload_n 0, 1), .ok (.iload 4, 2), .ok (.iconst 1, 1), .ok (.iadd, 1), .ok (.iaload, 1), .ok (.aload_n 0, 1), .ok (.iload 4, 2), .ok (.iconst 2, 1), .ok (.iadd, 1), .ok (.iaload, 1), .ok (.aload_n 0, 1), .ok (.iload 4, 2), .ok (.iconst 3, 1), .ok (.iadd, 1), .ok (.iaload, 1), .ok (.aload_n 0, 1), .ok (.iload 4, 2), .ok (.iconst 4, 1), .ok (.iadd, 1), .ok (.iaload, 1), .ok (.invokevirtual 99, 3), .ok (.pop, 1), .ok (.aload_n 2, 1), .ok (.aload_n 0, 1), .ok (.iload 4, 2), .ok (.iconst 1, 1), .ok (.iadd, 1), .ok (.iaload, 1), .ok (.aload_n 0, 1), .ok (.iload 4, 2), .ok (.iconst 2, 1), .ok (.iadd, 1), .ok (.iaload, 1), .ok (.aload_n 0, 1), .ok (.iload 4, 2), .ok (.iconst 3, 1), .ok (.iadd, 1), .ok (.iaload, 1), .ok (.aload_n 0, 1), .ok (.iload 4, 2), .ok (.iconst 4, 1), .ok (.iadd, 1), .ok (.iaload, 1), .ok (.invokevirtual 102, 3), .ok (.pop, 1), .ok (.goto 834, 3), .ok (.aload_n 1, 1)] := wk_map (t := [(950, .iconst 3, 1), (951, .iadd, 1), (952, .iaload, 1), (953, .aload_n 0, 1), (954, .iload 4, 2), (956, .iconst 4, 1), (957, .iadd, 1), (958, .iaload, 1), (959, .aload_n 0, 1), (960, .iload 4, 2), (962, .iconst 5, 1), (963, .iadd, 1), (964, .iaload, 1), (965, .invokevirtual 98, 3), (968, .pop, 1), (969, .goto 895, 3), (972, .aload_n 1, 1), (973, .aload_n 0, 1), (974, .iload 4, 2), (976, .iconst 1, 1), (977, .iadd, 1), (978, .iaload, 1), (979, .aload_n 0, 1), (980, .iload 4, 2), (982, .iconst 2, 1), (983, .iadd, 1), (984, .iaload, 1), (985, .aload_n 0, 1), (986, .iload 4, 2), (988, .iconst 3, 1), (989, .iadd, 1), (990, .iaload, 1), (991, .aload_n 0, 1), (992, .iload 4, 2), (994, .iconst 4, 1), (995, .iadd, 1), (996, .iaload, 1), (997, .invokevirtual 99, 3), (1000, .pop, 1), (1001, .aload_n 2, 1), (1002, .aload_n 0, 1), (1003, .iload 4, 2), (1005, .iconst 1, 1), (1006, .iadd, 1), (1007, .iaload, 1), (1008, .aload_n 0, 1), (1009, .iload 4, 2), (1011, .iconst 2, 1), (1012, .iadd, 1), (1013, .iaload, 1), (1014, .aload_n 0, 1), (1015, .iload 4, 2), (1017, .iconst 3, 1), (1018, .iadd, 1), (1019, .iaload, 1), (1020, .aload_n 0, 1), (1021, .iload 4, 2), (1023, .iconst 4, 1), (1024, .iadd, 1), (1025, .iaload, 1), (1026, .invokevirtual 102, 3), (1029, .pop, 1), (1030, .goto 834, 3), (1033, .aload_n 1, 1)]) (by decide +kernel)
theorem dL_law_950 : decode cL_law 950 = .ok (.iconst 3, 1) := row_of dLc_950 0 rfl rfl
theorem dL_law_951 : decode cL_law 951 = .ok (.iadd, 1) := row_of dLc_950 1 rfl rfl
theorem dL_law_952 : decode cL_law 952 = .ok (.iaload, 1) := row_of dLc_950 2 rfl rfl
theorem dL_law_953 : decode cL_law 953 = .ok (.aload_n 0, 1) := row_of dLc_950 3 rfl rfl
theorem dL_law_954 : decode cL_law 954 = .ok (.iload 4, 2) := row_of dLc_950 4 rfl rfl
theorem dL_law_956 : decode cL_law 956 = .ok (.iconst 4, 1) := row_of dLc_950 5 rfl rfl
theorem dL_law_957 : decode cL_law 957 = .ok (.iadd, 1) := row_of dLc_950 6 rfl rfl
theorem dL_law_958 : decode cL_law 958 = .ok (.iaload, 1) := row_of dLc_950 7 rfl rfl
theorem dL_law_959 : decode cL_law 959 = .ok (.aload_n 0, 1) := row_of dLc_950 8 rfl rfl
theorem dL_law_960 : decode cL_law 960 = .ok (.iload 4, 2) := row_of dLc_950 9 rfl rfl
theorem dL_law_962 : decode cL_law 962 = .ok (.iconst 5, 1) := row_of dLc_950 10 rfl rfl
theorem dL_law_963 : decode cL_law 963 = .ok (.iadd, 1) := row_of dLc_950 11 rfl rfl
theorem dL_law_964 : decode cL_law 964 = .ok (.iaload, 1) := row_of dLc_950 12 rfl rfl
theorem dL_law_965 : decode cL_law 965 = .ok (.invokevirtual 98, 3) := row_of dLc_950 13 rfl rfl
theorem dL_law_968 : decode cL_law 968 = .ok (.pop, 1) := row_of dLc_950 14 rfl rfl
theorem dL_law_969 : decode cL_law 969 = .ok (.goto 895, 3) := row_of dLc_950 15 rfl rfl
theorem dL_law_972 : decode cL_law 972 = .ok (.aload_n 1, 1) := row_of dLc_950 16 rfl rfl
theorem dL_law_973 : decode cL_law 973 = .ok (.aload_n 0, 1) := row_of dLc_950 17 rfl rfl
theorem dL_law_974 : decode cL_law 974 = .ok (.iload 4, 2) := row_of dLc_950 18 rfl rfl
theorem dL_law_976 : decode cL_law 976 = .ok (.iconst 1, 1) := row_of dLc_950 19 rfl rfl
theorem dL_law_977 : decode cL_law 977 = .ok (.iadd, 1) := row_of dLc_950 20 rfl rfl
theorem dL_law_978 : decode cL_law 978 = .ok (.iaload, 1) := row_of dLc_950 21 rfl rfl
theorem dL_law_979 : decode cL_law 979 = .ok (.aload_n 0, 1) := row_of dLc_950 22 rfl rfl
theorem dL_law_980 : decode cL_law 980 = .ok (.iload 4, 2) := row_of dLc_950 23 rfl rfl
theorem dL_law_982 : decode cL_law 982 = .ok (.iconst 2, 1) := row_of dLc_950 24 rfl rfl
theorem dL_law_983 : decode cL_law 983 = .ok (.iadd, 1) := row_of dLc_950 25 rfl rfl
theorem dL_law_984 : decode cL_law 984 = .ok (.iaload, 1) := row_of dLc_950 26 rfl rfl
theorem dL_law_985 : decode cL_law 985 = .ok (.aload_n 0, 1) := row_of dLc_950 27 rfl rfl
theorem dL_law_986 : decode cL_law 986 = .ok (.iload 4, 2) := row_of dLc_950 28 rfl rfl
theorem dL_law_988 : decode cL_law 988 = .ok (.iconst 3, 1) := row_of dLc_950 29 rfl rfl
theorem dL_law_989 : decode cL_law 989 = .ok (.iadd, 1) := row_of dLc_950 30 rfl rfl
theorem dL_law_990 : decode cL_law 990 = .ok (.iaload, 1) := row_of dLc_950 31 rfl rfl
theorem dL_law_991 : decode cL_law 991 = .ok (.aload_n 0, 1) := row_of dLc_950 32 rfl rfl
theorem dL_law_992 : decode cL_law 992 = .ok (.iload 4, 2) := row_of dLc_950 33 rfl rfl
theorem dL_law_994 : decode cL_law 994 = .ok (.iconst 4, 1) := row_of dLc_950 34 rfl rfl
theorem dL_law_995 : decode cL_law 995 = .ok (.iadd, 1) := row_of dLc_950 35 rfl rfl
theorem dL_law_996 : decode cL_law 996 = .ok (.iaload, 1) := row_of dLc_950 36 rfl rfl
theorem dL_law_997 : decode cL_law 997 = .ok (.invokevirtual 99, 3) := row_of dLc_950 37 rfl rfl
theorem dL_law_1000 : decode cL_law 1000 = .ok (.pop, 1) := row_of dLc_950 38 rfl rfl
theorem dL_law_1001 : decode cL_law 1001 = .ok (.aload_n 2, 1) := row_of dLc_950 39 rfl rfl
theorem dL_law_1002 : decode cL_law 1002 = .ok (.aload_n 0, 1) := row_of dLc_950 40 rfl rfl
theorem dL_law_1003 : decode cL_law 1003 = .ok (.iload 4, 2) := row_of dLc_950 41 rfl rfl
theorem dL_law_1005 : decode cL_law 1005 = .ok (.iconst 1, 1) := row_of dLc_950 42 rfl rfl
theorem dL_law_1006 : decode cL_law 1006 = .ok (.iadd, 1) := row_of dLc_950 43 rfl rfl
theorem dL_law_1007 : decode cL_law 1007 = .ok (.iaload, 1) := row_of dLc_950 44 rfl rfl
theorem dL_law_1008 : decode cL_law 1008 = .ok (.aload_n 0, 1) := row_of dLc_950 45 rfl rfl
theorem dL_law_1009 : decode cL_law 1009 = .ok (.iload 4, 2) := row_of dLc_950 46 rfl rfl
theorem dL_law_1011 : decode cL_law 1011 = .ok (.iconst 2, 1) := row_of dLc_950 47 rfl rfl
theorem dL_law_1012 : decode cL_law 1012 = .ok (.iadd, 1) := row_of dLc_950 48 rfl rfl
theorem dL_law_1013 : decode cL_law 1013 = .ok (.iaload, 1) := row_of dLc_950 49 rfl rfl
theorem dL_law_1014 : decode cL_law 1014 = .ok (.aload_n 0, 1) := row_of dLc_950 50 rfl rfl
theorem dL_law_1015 : decode cL_law 1015 = .ok (.iload 4, 2) := row_of dLc_950 51 rfl rfl
theorem dL_law_1017 : decode cL_law 1017 = .ok (.iconst 3, 1) := row_of dLc_950 52 rfl rfl
theorem dL_law_1018 : decode cL_law 1018 = .ok (.iadd, 1) := row_of dLc_950 53 rfl rfl
theorem dL_law_1019 : decode cL_law 1019 = .ok (.iaload, 1) := row_of dLc_950 54 rfl rfl
theorem dL_law_1020 : decode cL_law 1020 = .ok (.aload_n 0, 1) := row_of dLc_950 55 rfl rfl
theorem dL_law_1021 : decode cL_law 1021 = .ok (.iload 4, 2) := row_of dLc_950 56 rfl rfl
theorem dL_law_1023 : decode cL_law 1023 = .ok (.iconst 4, 1) := row_of dLc_950 57 rfl rfl
theorem dL_law_1024 : decode cL_law 1024 = .ok (.iadd, 1) := row_of dLc_950 58 rfl rfl
theorem dL_law_1025 : decode cL_law 1025 = .ok (.iaload, 1) := row_of dLc_950 59 rfl rfl
theorem dL_law_1026 : decode cL_law 1026 = .ok (.invokevirtual 102, 3) := row_of dLc_950 60 rfl rfl
theorem dL_law_1029 : decode cL_law 1029 = .ok (.pop, 1) := row_of dLc_950 61 rfl rfl
theorem dL_law_1030 : decode cL_law 1030 = .ok (.goto 834, 3) := row_of dLc_950 62 rfl rfl
theorem dL_law_1033 : decode cL_law 1033 = .ok (.aload_n 1, 1) := row_of dLc_950 63 rfl rfl
theorem dLc_1034 : List.map (decode cL_law) [1034, 1035, 1037, 1038, 1039, 1040, 1041, 1043, 1044, 1045, 1046, 1047, 1049, 1050, 1051, 1052, 1055, 1056, 1057, 1058, 1060, 1061, 1062, 1063, 1064, 1066, 1067, 1068, 1069, 1070, 1072, 1073, 1074, 1075, 1078, 1079, 1082, 1083, 1084, 1086, 1087, 1088, 1089, 1090, 1092, 1093, 1094, 1095, 1096, 1098, 1099, 1100, 1101, 1104, 1105, 1106, 1107, 1109, 1110, 1111, 1112, 1113, 1115, 1116] = [.ok (.aload_n 0, 1), .ok (.iload 4, 2), .ok (.iconst 1, 1), .ok (.iadd, 1), .ok (.iaload, 1), .ok (.aload_n 0, 1), .ok (.iload 4, 2), .ok (.iconst 2, 1), .ok (.iadd, 1), .ok (.iaload, 1), .ok (.aload_n 0, 1), .ok (.iload 4, 2), .ok (.iconst 3, 1), .ok (.iadd, 1), .ok (.iaload, 1), .ok (.invokevirtual 103, 3), .ok (.pop, 1), .ok (.aload_n 2, 1), .ok (.aload_n 0, 1), .ok (.iload 4, 2), .ok (.iconst 1, 1), .ok (.iadd, 1), .ok (.iaload, 1), .ok (.aload_n 0, 1), .ok (.iload 4, 2), .ok (.iconst 2, 1), .ok (.iadd, 1), .ok (.iaload, 1), .ok (.aload_n 0, 1), .ok (.iload 4, 2), .ok (.iconst 3, 1), .ok (.iadd, 1), .ok (.iaload, 1), .ok (.invokevirtual 106, 3), .ok (.pop, 1), .ok (.goto 785, 3), .ok (.aload_n 1, 1), .ok (.aload_n 0, 1), .ok (.iload 4, 2), .ok (.iconst 1, 1), .ok (.iadd, 1), .ok (.iaload, 1), .ok (.aload_n 0, 1), .ok (.iload 4, 2), .ok (.iconst 2, 1), .ok (.iadd, 1), .ok (.iaload, 1), .ok (.aload_n 0, 1), .ok (.iload 4, 2), .ok (.iconst 3, 1), .ok (.iadd, 1), .ok (.iaload, 1), .ok (.invokevirtual 107, 3), .ok (.pop, 1), .ok (.aload_n 2, 1), .ok (.aload_n 0, 1), .ok (.iload 4, 2), .ok (.iconst 1, 1), .ok (.iadd, 1), .ok (.iaload, 1), .ok (.aload_n 0, 1), .ok (.iload 4, 2), .ok (.iconst 2, 1), .ok (.iadd, 1)] := wk_map (t := [(1034, .aload_n 0, 1), (1035, .iload 4, 2), (1037, .iconst 1, 1), (1038, .iadd, 1), (1039, .iaload, 1), (1040, .aload_n 0, 1), (1041, .iload 4, 2), (1043, .iconst 2, 1), (1044, .iadd, 1), (1045, .iaload, 1), (1046, .aload_n 0, 1), (1047, .iload 4, 2), (1049, .iconst 3, 1), (1050, .iadd, 1), (1051, .iaload, 1), (1052, .invokevirtual 103, 3), (1055, .pop, 1), (1056, .aload_n 2, 1), (1057, .aload_n 0, 1), (1058, .iload 4, 2), (1060, .iconst 1, 1), (1061, .iadd, 1), (1062, .iaload, 1), (1063, .aload_n 0, 1), (1064, .iload 4, 2), (1066, .iconst 2, 1), (1067, .iadd, 1), (1068, .iaload, 1), (1069, .aload_n 0, 1), (1070, .iload 4, 2), (1072, .iconst 3, 1), (1073, .iadd, 1), (1074, .iaload, 1), (1075, .invokevirtual 106, 3), (1078, .pop, 1), (1079, .goto 785, 3), (1082, .aload_n 1, 1), (1083, .aload_n 0, 1), (1084, .iload 4, 2), (1086, .iconst 1, 1), (1087, .iadd, 1), (1088, .iaload, 1), (1089, .aload_n 0, 1), (1090, .iload 4, 2), (1092, .iconst 2, 1), (1093, .iadd, 1), (1094, .iaload, 1), (1095, .aload_n 0, 1), (1096, .iload 4, 2), (1098, .iconst 3, 1), (1099, .iadd, 1), (1100, .iaload, 1), (1101, .invokevirtual 107, 3), (1104, .pop, 1), (1105, .aload_n 2, 1), (1106, .aload_n 0, 1), (1107, .iload 4, 2), (1109, .iconst 1, 1), (1110, .iadd, 1), (1111, .iaload, 1), (1112, .aload_n 0, 1), (1113, .iload 4, 2), (1115, .iconst 2, 1), (1116, .iadd, 1)]) (by decide +kernel)
theorem dL_law_1034 : decode cL_law 1034 = .ok (.aload_n 0, 1) := row_of dLc_1034 0 rfl rfl
theorem dL_law_1035 : decode cL_law 1035 = .ok (.iload 4, 2) := row_of dLc_1034 1 rfl rfl
theorem dL_law_1037 : decode cL_law 1037 = .ok (.iconst 1, 1) := row_of dLc_1034 2 rfl rfl
theorem dL_law_1038 : decode cL_law 1038 = .ok (.iadd, 1) := row_of dLc_1034 3 rfl rfl
theorem dL_law_1039 : decode cL_law 1039 = .ok (.iaload, 1) := row_of dLc_1034 4 rfl rfl
theorem dL_law_1040 : decode cL_law 1040 = .ok (.aload_n 0, 1) := row_of dLc_1034 5 rfl rfl
theorem dL_law_1041 : decode cL_law 1041 = .ok (.iload 4, 2) := row_of dLc_1034 6 rfl rfl
theorem dL_law_1043 : decode cL_law 1043 = .ok (.iconst 2, 1) := row_of dLc_1034 7 rfl rfl
theorem dL_law_1044 : decode cL_law 1044 = .ok (.iadd, 1) := row_of dLc_1034 8 rfl rfl
theorem dL_law_1045 : decode cL_law 1045 = .ok (.iaload, 1) := row_of dLc_1034 9 rfl rfl
theorem dL_law_1046 : decode cL_law 1046 = .ok (.aload_n 0, 1) := row_of dLc_1034 10 rfl rfl
theorem dL_law_1047 : decode cL_law 1047 = .ok (.iload 4, 2) := row_of dLc_1034 11 rfl rfl
theorem dL_law_1049 : decode cL_law 1049 = .ok (.iconst 3, 1) := row_of dLc_1034 12 rfl rfl
theorem dL_law_1050 : decode cL_law 1050 = .ok (.iadd, 1) := row_of dLc_1034 13 rfl rfl
theorem dL_law_1051 : decode cL_law 1051 = .ok (.iaload, 1) := row_of dLc_1034 14 rfl rfl
theorem dL_law_1052 : decode cL_law 1052 = .ok (.invokevirtual 103, 3) := row_of dLc_1034 15 rfl rfl
theorem dL_law_1055 : decode cL_law 1055 = .ok (.pop, 1) := row_of dLc_1034 16 rfl rfl
theorem dL_law_1056 : decode cL_law 1056 = .ok (.aload_n 2, 1) := row_of dLc_1034 17 rfl rfl
theorem dL_law_1057 : decode cL_law 1057 = .ok (.aload_n 0, 1) := row_of dLc_1034 18 rfl rfl
theorem dL_law_1058 : decode cL_law 1058 = .ok (.iload 4, 2) := row_of dLc_1034 19 rfl rfl
theorem dL_law_1060 : decode cL_law 1060 = .ok (.iconst 1, 1) := row_of dLc_1034 20 rfl rfl
theorem dL_law_1061 : decode cL_law 1061 = .ok (.iadd, 1) := row_of dLc_1034 21 rfl rfl
theorem dL_law_1062 : decode cL_law 1062 = .ok (.iaload, 1) := row_of dLc_1034 22 rfl rfl
theorem dL_law_1063 : decode cL_law 1063 = .ok (.aload_n 0, 1) := row_of dLc_1034 23 rfl rfl
theorem dL_law_1064 : decode cL_law 1064 = .ok (.iload 4, 2) := row_of dLc_1034 24 rfl rfl
theorem dL_law_1066 : decode cL_law 1066 = .ok (.iconst 2, 1) := row_of dLc_1034 25 rfl rfl
theorem dL_law_1067 : decode cL_law 1067 = .ok (.iadd, 1) := row_of dLc_1034 26 rfl rfl
theorem dL_law_1068 : decode cL_law 1068 = .ok (.iaload, 1) := row_of dLc_1034 27 rfl rfl
theorem dL_law_1069 : decode cL_law 1069 = .ok (.aload_n 0, 1) := row_of dLc_1034 28 rfl rfl
theorem dL_law_1070 : decode cL_law 1070 = .ok (.iload 4, 2) := row_of dLc_1034 29 rfl rfl
theorem dL_law_1072 : decode cL_law 1072 = .ok (.iconst 3, 1) := row_of dLc_1034 30 rfl rfl
theorem dL_law_1073 : decode cL_law 1073 = .ok (.iadd, 1) := row_of dLc_1034 31 rfl rfl
theorem dL_law_1074 : decode cL_law 1074 = .ok (.iaload, 1) := row_of dLc_1034 32 rfl rfl
theorem dL_law_1075 : decode cL_law 1075 = .ok (.invokevirtual 106, 3) := row_of dLc_1034 33 rfl rfl
theorem dL_law_1078 : decode cL_law 1078 = .ok (.pop, 1) := row_of dLc_1034 34 rfl rfl
theorem dL_law_1079 : decode cL_law 1079 = .ok (.goto 785, 3) := row_of dLc_1034 35 rfl rfl
theorem dL_law_1082 : decode cL_law 1082 = .ok (.aload_n 1, 1) := row_of dLc_1034 36 rfl rfl
theorem dL_law_1083 : decode cL_law 1083 = .ok (.aload_n 0, 1) := row_of dLc_1034 37 rfl rfl
theorem dL_law_1084 : decode cL_law 1084 = .ok (.iload 4, 2) := row_of dLc_1034 38 rfl rfl
theorem dL_law_1086 : decode cL_law 1086 = .ok (.iconst 1, 1) := row_of dLc_1034 39 rfl rfl
theorem dL_law_1087 : decode cL_law 1087 = .ok (.iadd, 1) := row_of dLc_1034 40 rfl rfl
theorem dL_law_1088 : decode cL_law 1088 = .ok (.iaload, 1) := row_of dLc_1034 41 rfl rfl
theorem dL_law_1089 : decode cL_law 1089 = .ok (.aload_n 0, 1) := row_of dLc_1034 42 rfl rfl
theorem dL_law_1090 : decode cL_law 1090 = .ok (.iload 4, 2) := row_of dLc_1034 43 rfl rfl
theorem dL_law_1092 : decode cL_law 1092 = .ok (.iconst 2, 1) := row_of dLc_1034 44 rfl rfl
theorem dL_law_1093 : decode cL_law 1093 = .ok (.iadd, 1) := row_of dLc_1034 45 rfl rfl
theorem dL_law_1094 : decode cL_law 1094 = .ok (.iaload, 1) := row_of dLc_1034 46 rfl rfl
theorem dL_law_1095 : decode cL_law 1095 = .ok (.aload_n 0, 1) := row_of dLc_1034 47 rfl rfl
theorem dL_law_1096 : decode cL_law 1096 = .ok (.iload 4, 2) := row_of dLc_1034 48 rfl rfl
theorem dL_law_1098 : decode cL_law 1098 = .ok (.iconst 3, 1) := row_of dLc_1034 49 rfl rfl
theorem dL_law_1099 : decode cL_law 1099 = .ok (.iadd, 1) := row_of dLc_1034 50 rfl rfl
theorem dL_law_1100 : decode cL_law 1100 = .ok (.iaload, 1) := row_of dLc_1034 51 rfl rfl
theorem dL_law_1101 : decode cL_law 1101 = .ok (.invokevirtual 107, 3) := row_of dLc_1034 52 rfl rfl
theorem dL_law_1104 : decode cL_law 1104 = .ok (.pop, 1) := row_of dLc_1034 53 rfl rfl
theorem dL_law_1105 : decode cL_law 1105 = .ok (.aload_n 2, 1) := row_of dLc_1034 54 rfl rfl
theorem dL_law_1106 : decode cL_law 1106 = .ok (.aload_n 0, 1) := row_of dLc_1034 55 rfl rfl
theorem dL_law_1107 : decode cL_law 1107 = .ok (.iload 4, 2) := row_of dLc_1034 56 rfl rfl
theorem dL_law_1109 : decode cL_law 1109 = .ok (.iconst 1, 1) := row_of dLc_1034 57 rfl rfl
theorem dL_law_1110 : decode cL_law 1110 = .ok (.iadd, 1) := row_of dLc_1034 58 rfl rfl
theorem dL_law_1111 : decode cL_law 1111 = .ok (.iaload, 1) := row_of dLc_1034 59 rfl rfl
theorem dL_law_1112 : decode cL_law 1112 = .ok (.aload_n 0, 1) := row_of dLc_1034 60 rfl rfl
theorem dL_law_1113 : decode cL_law 1113 = .ok (.iload 4, 2) := row_of dLc_1034 61 rfl rfl
theorem dL_law_1115 : decode cL_law 1115 = .ok (.iconst 2, 1) := row_of dLc_1034 62 rfl rfl
theorem dL_law_1116 : decode cL_law 1116 = .ok (.iadd, 1) := row_of dLc_1034 63 rfl rfl
theorem dLc_1117 : List.map (decode cL_law) [1117, 1118, 1119, 1121, 1122, 1123, 1124, 1127, 1128, 1131, 1132, 1133, 1135, 1136, 1137, 1138, 1139, 1141, 1142, 1143, 1144, 1145, 1147, 1148, 1149, 1150, 1151, 1153, 1154, 1155, 1156, 1159, 1160, 1161, 1162, 1164, 1165, 1166, 1167, 1168, 1170, 1171, 1172, 1173, 1174, 1176, 1177, 1178, 1179, 1180, 1182, 1183, 1184, 1185, 1188, 1189, 1192, 1193, 1194, 1196, 1197, 1198, 1199, 1202] = [.ok (.iaload, 1), .ok (.aload_n 0, 1), .ok (.iload 4, 2), .ok (.iconst 3, 1), .ok (.iadd, 1), .ok (.iaload, 1), .ok (.invokevirtual 110, 3), .ok (.pop, 1), .ok (.goto 736, 3), .ok (.aload_n 1, 1), .ok (.aload_n 0, 1), .ok (.iload 4, 2), .ok (.iconst 1, 1), .ok (.iadd, 1), .ok (.iaload, 1), .ok (.aload_n 0, 1), .ok (.iload 4, 2), .ok (.iconst 2, 1), .ok (.iadd, 1), .ok (.iaload, 1), .ok (.aload_n 0, 1), .ok (.iload 4, 2), .ok (.iconst 3, 1), .ok (.iadd, 1), .ok (.iaload, 1), .ok (.aload_n 0, 1), .ok (.iload 4, 2), .ok (.iconst 4, 1), .ok (.iadd, 1), .ok (.iaload, 1), .ok (.invokevirtual 111, 3), .ok (.pop, 1), .ok (.aload_n 2, 1), .ok (.aload_n 0, 1), .ok (.iload 4, 2), .ok (.iconst 1, 1), .ok (.iadd, 1), .ok (.iaload, 1), .ok (.aload_n 0, 1), .ok (.iload 4, 2), .ok (.iconst 2, 1), .ok (.iadd, 1), .ok (.iaload, 1), .ok (.aload_n 0, 1), .ok (.iload 4, 2), .ok (.iconst 3, 1), .ok (.iadd, 1), .ok (.iaload, 1), .ok (.aload_n 0, 1), .ok (.iload 4, 2), .ok (.iconst 4, 1), .ok (.iadd, 1), .ok (.iaload, 1), .ok (.invokevirtual 114, 3), .ok (.pop, 1), .ok (.goto 675, 3), .ok (.aload_n 1, 1), .ok (.aload_n 0, 1), .ok (.iload 4, 2), .ok (.iconst 1, 1), .ok (.iadd, 1), .ok (.iaload, 1), .ok (.invokevirtual 115, 3), .ok (.pop, 1)] := wk_map (t := [(1117, .iaload, 1), (1118, .aload_n 0, 1), (1119, .iload 4, 2), (1121, .iconst 3, 1), (1122, .iadd, 1), (1123, .iaload, 1), (1124, .invokevirtual 110, 3), (1127, .pop, 1), (1128, .goto 736, 3), (1131, .aload_n 1, 1), (1132, .aload_n 0, 1), (1133, .iload 4, 2), (1135, .iconst 1, 1), (1136, .iadd, 1), (1137, .iaload, 1), (1138, .aload_n 0, 1), (1139, .iload 4, 2), (1141, .iconst 2, 1), (1142, .iadd, 1), (1143, .iaload, 1), (1144, .aload_n 0, 1), (1145, .iload 4, 2), (1147, .iconst 3, 1), (1148, .iadd, 1), (1149, .iaload, 1), (1150, .aload_n 0, 1), (1151, .iload 4, 2), (1153, .iconst 4, 1), (1154, .iadd, 1), (1155, .iaload, 1), (1156, .invokevirtual 111, 3), (1159, .pop, 1), (1160, .aload_n 2, 1), (1161, .aload_n 0, 1), (1162, .iload 4, 2), (1164, .iconst 1, 1), (1165, .iadd, 1), (1166, .iaload, 1), (1167, .aload_n 0, 1), (1168, .iload 4, 2), (1170, .iconst 2, 1), (1171, .iadd, 1), (1172, .iaload, 1), (1173, .aload_n 0, 1), (1174, .iload 4, 2), (1176, .iconst 3, 1), (1177, .iadd, 1), (1178, .iaload, 1), (1179, .aload_n 0, 1), (1180, .iload 4, 2), (1182, .iconst 4, 1), (1183, .iadd, 1), (1184, .iaload, 1), (1185, .invokevirtual 114, 3), (1188, .pop, 1), (1189, .goto 675, 3), (1192, .aload_n 1, 1), (1193, .aload_n 0, 1), (1194, .iload 4, 2), (1196, .iconst 1, 1), (1197, .iadd, 1), (1198, .iaload, 1), (1199, .invokevirtual 115, 3), (1202, .pop, 1)]) (by decide +kernel)
theorem dL_law_1117 : decode cL_law 1117 = .ok (.iaload, 1) := row_of dLc_1117 0 rfl rfl
theorem dL_law_1118 : decode cL_law 1118 = .ok (.aload_n 0, 1) := row_of dLc_1117 1 rfl rfl
theorem dL_law_1119 : decode cL_law 1119 = .ok (.iload 4, 2) := row_of dLc_1117 2 rfl rfl
theorem dL_law_1121 : decode cL_law 1121 = .ok (.iconst 3, 1) := row_of dLc_1117 3 rfl rfl
theorem dL_law_1122 : decode cL_law 1122 = .ok (.iadd, 1) := row_of dLc_1117 4 rfl rfl
theorem dL_law_1123 : decode cL_law 1123 = .ok (.iaload, 1) := row_of dLc_1117 5 rfl rfl
theorem dL_law_1124 : decode cL_law 1124 = .ok (.invokevirtual 110, 3) := row_of dLc_1117 6 rfl rfl
theorem dL_law_1127 : decode cL_law 1127 = .ok (.pop, 1) := row_of dLc_1117 7 rfl rfl
theorem dL_law_1128 : decode cL_law 1128 = .ok (.goto 736, 3) := row_of dLc_1117 8 rfl rfl
theorem dL_law_1131 : decode cL_law 1131 = .ok (.aload_n 1, 1) := row_of dLc_1117 9 rfl rfl
theorem dL_law_1132 : decode cL_law 1132 = .ok (.aload_n 0, 1) := row_of dLc_1117 10 rfl rfl
theorem dL_law_1133 : decode cL_law 1133 = .ok (.iload 4, 2) := row_of dLc_1117 11 rfl rfl
theorem dL_law_1135 : decode cL_law 1135 = .ok (.iconst 1, 1) := row_of dLc_1117 12 rfl rfl
theorem dL_law_1136 : decode cL_law 1136 = .ok (.iadd, 1) := row_of dLc_1117 13 rfl rfl
theorem dL_law_1137 : decode cL_law 1137 = .ok (.iaload, 1) := row_of dLc_1117 14 rfl rfl
theorem dL_law_1138 : decode cL_law 1138 = .ok (.aload_n 0, 1) := row_of dLc_1117 15 rfl rfl
theorem dL_law_1139 : decode cL_law 1139 = .ok (.iload 4, 2) := row_of dLc_1117 16 rfl rfl
theorem dL_law_1141 : decode cL_law 1141 = .ok (.iconst 2, 1) := row_of dLc_1117 17 rfl rfl
theorem dL_law_1142 : decode cL_law 1142 = .ok (.iadd, 1) := row_of dLc_1117 18 rfl rfl
theorem dL_law_1143 : decode cL_law 1143 = .ok (.iaload, 1) := row_of dLc_1117 19 rfl rfl
theorem dL_law_1144 : decode cL_law 1144 = .ok (.aload_n 0, 1) := row_of dLc_1117 20 rfl rfl
theorem dL_law_1145 : decode cL_law 1145 = .ok (.iload 4, 2) := row_of dLc_1117 21 rfl rfl
theorem dL_law_1147 : decode cL_law 1147 = .ok (.iconst 3, 1) := row_of dLc_1117 22 rfl rfl
theorem dL_law_1148 : decode cL_law 1148 = .ok (.iadd, 1) := row_of dLc_1117 23 rfl rfl
theorem dL_law_1149 : decode cL_law 1149 = .ok (.iaload, 1) := row_of dLc_1117 24 rfl rfl
theorem dL_law_1150 : decode cL_law 1150 = .ok (.aload_n 0, 1) := row_of dLc_1117 25 rfl rfl
theorem dL_law_1151 : decode cL_law 1151 = .ok (.iload 4, 2) := row_of dLc_1117 26 rfl rfl
theorem dL_law_1153 : decode cL_law 1153 = .ok (.iconst 4, 1) := row_of dLc_1117 27 rfl rfl
theorem dL_law_1154 : decode cL_law 1154 = .ok (.iadd, 1) := row_of dLc_1117 28 rfl rfl
theorem dL_law_1155 : decode cL_law 1155 = .ok (.iaload, 1) := row_of dLc_1117 29 rfl rfl
theorem dL_law_1156 : decode cL_law 1156 = .ok (.invokevirtual 111, 3) := row_of dLc_1117 30 rfl rfl
theorem dL_law_1159 : decode cL_law 1159 = .ok (.pop, 1) := row_of dLc_1117 31 rfl rfl
theorem dL_law_1160 : decode cL_law 1160 = .ok (.aload_n 2, 1) := row_of dLc_1117 32 rfl rfl
theorem dL_law_1161 : decode cL_law 1161 = .ok (.aload_n 0, 1) := row_of dLc_1117 33 rfl rfl
theorem dL_law_1162 : decode cL_law 1162 = .ok (.iload 4, 2) := row_of dLc_1117 34 rfl rfl
theorem dL_law_1164 : decode cL_law 1164 = .ok (.iconst 1, 1) := row_of dLc_1117 35 rfl rfl
theorem dL_law_1165 : decode cL_law 1165 = .ok (.iadd, 1) := row_of dLc_1117 36 rfl rfl
theorem dL_law_1166 : decode cL_law 1166 = .ok (.iaload, 1) := row_of dLc_1117 37 rfl rfl
theorem dL_law_1167 : decode cL_law 1167 = .ok (.aload_n 0, 1) := row_of dLc_1117 38 rfl rfl
theorem dL_law_1168 : decode cL_law 1168 = .ok (.iload 4, 2) := row_of dLc_1117 39 rfl rfl
theorem dL_law_1170 : decode cL_law 1170 = .ok (.iconst 2, 1) := row_of dLc_1117 40 rfl rfl
theorem dL_law_1171 : decode cL_law 1171 = .ok (.iadd, 1) := row_of dLc_1117 41 rfl rfl
theorem dL_law_1172 : decode cL_law 1172 = .ok (.iaload, 1) := row_of dLc_1117 42 rfl rfl
theorem dL_law_1173 : decode cL_law 1173 = .ok (.aload_n 0, 1) := row_of dLc_1117 43 rfl rfl
theorem dL_law_1174 : decode cL_law 1174 = .ok (.iload 4, 2) := row_of dLc_1117 44 rfl rfl
theorem dL_law_1176 : decode cL_law 1176 = .ok (.iconst 3, 1) := row_of dLc_1117 45 rfl rfl
theorem dL_law_1177 : decode cL_law 1177 = .ok (.iadd, 1) := row_of dLc_1117 46 rfl rfl
theorem dL_law_1178 : decode cL_law 1178 = .ok (.iaload, 1) := row_of dLc_1117 47 rfl rfl
theorem dL_law_1179 : decode cL_law 1179 = .ok (.aload_n 0, 1) := row_of dLc_1117 48 rfl rfl
theorem dL_law_1180 : decode cL_law 1180 = .ok (.iload 4, 2) := row_of dLc_1117 49 rfl rfl
theorem dL_law_1182 : decode cL_law 1182 = .ok (.iconst 4, 1) := row_of dLc_1117 50 rfl rfl
theorem dL_law_1183 : decode cL_law 1183 = .ok (.iadd, 1) := row_of dLc_1117 51 rfl rfl
theorem dL_law_1184 : decode cL_law 1184 = .ok (.iaload, 1) := row_of dLc_1117 52 rfl rfl
theorem dL_law_1185 : decode cL_law 1185 = .ok (.invokevirtual 114, 3) := row_of dLc_1117 53 rfl rfl
theorem dL_law_1188 : decode cL_law 1188 = .ok (.pop, 1) := row_of dLc_1117 54 rfl rfl
theorem dL_law_1189 : decode cL_law 1189 = .ok (.goto 675, 3) := row_of dLc_1117 55 rfl rfl
theorem dL_law_1192 : decode cL_law 1192 = .ok (.aload_n 1, 1) := row_of dLc_1117 56 rfl rfl
theorem dL_law_1193 : decode cL_law 1193 = .ok (.aload_n 0, 1) := row_of dLc_1117 57 rfl rfl
theorem dL_law_1194 : decode cL_law 1194 = .ok (.iload 4, 2) := row_of dLc_1117 58 rfl rfl
theorem dL_law_1196 : decode cL_law 1196 = .ok (.iconst 1, 1) := row_of dLc_1117 59 rfl rfl
theorem dL_law_1197 : decode cL_law 1197 = .ok (.iadd, 1) := row_of dLc_1117 60 rfl rfl
theorem dL_law_1198 : decode cL_law 1198 = .ok (.iaload, 1) := row_of dLc_1117 61 rfl rfl
theorem dL_law_1199 : decode cL_law 1199 = .ok (.invokevirtual 115, 3) := row_of dLc_1117 62 rfl rfl
theorem dL_law_1202 : decode cL_law 1202 = .ok (.pop, 1) := row_of dLc_1117 63 rfl rfl
theorem dLc_1203 : List.map (decode cL_law) [1203, 1204, 1205, 1207, 1208, 1209, 1210, 1213, 1214, 1217, 1218, 1219, 1221, 1222, 1223, 1224, 1225, 1227, 1228, 1229, 1230, 1233, 1234, 1235, 1236, 1238, 1239, 1240, 1241, 1242, 1244, 1245, 1246, 1247, 1250, 1251, 1254, 1255, 1256, 1258, 1259, 1260, 1261, 1262, 1264, 1265, 1266, 1267, 1270, 1271, 1272, 1273, 1275, 1276, 1277, 1278, 1279, 1281, 1282, 1283, 1284, 1287, 1288, 1291] = [.ok (.aload_n 2, 1), .ok (.aload_n 0, 1), .ok (.iload 4, 2), .ok (.iconst 1, 1), .ok (.iadd, 1), .ok (.iaload, 1), .ok (.invokevirtual 118, 3), .ok (.pop, 1), .ok (.goto 650, 3), .ok (.aload_n 1, 1), .ok (.aload_n 0, 1), .ok (.iload 4, 2), .ok (.iconst 1, 1), .ok (.iadd, 1), .ok (.iaload, 1), .ok (.aload_n 0, 1), .ok (.iload 4, 2), .ok (.iconst 2, 1), .ok (.iadd, 1), .ok (.iaload, 1), .ok (.invokevirtual 119, 3), .ok (.pop, 1), .ok (.aload_n 2, 1), .ok (.aload_n 0, 1), .ok (.iload 4, 2), .ok (.iconst 1, 1), .ok (.iadd, 1), .ok (.iaload, 1), .ok (.aload_n 0, 1), .ok (.iload 4, 2), .ok (.iconst 2, 1), .ok (.iadd, 1), .ok (.iaload, 1), .ok (.invokevirtual 122, 3), .ok (.pop, 1), .ok (.goto 613, 3), .ok (.aload_n 1, 1), .ok (.aload_n 0, 1), .ok (.iload 4, 2), .ok (.iconst 1, 1), .ok (.iadd, 1), .ok (.iaload, 1), .ok (.aload_n 0, 1), .ok (.iload 4, 2), .ok (.iconst 2, 1), .ok (.iadd, 1), .ok (.iaload, 1), .ok (.invokevirtual 123, 3), .ok (.pop, 1), .ok (.aload_n 2, 1), .ok (.aload_n 0, 1), .ok (.iload 4, 2), .ok (.iconst 1, 1), .ok (.iadd, 1), .ok (.iaload, 1), .ok (.aload_n 0, 1), .ok (.iload 4, 2), .ok (.iconst 2, 1), .ok (.iadd, 1), .ok (.iaload, 1), .ok (.invokevirtual 126, 3), .ok (.pop, 1), .ok (.goto 576, 3), .ok (.aload_n 1, 1)] := wk_map (t := [(1203, .aload_n 2, 1), (1204, .aload_n 0, 1), (1205, .iload 4, 2), (1207, .iconst 1, 1), (1208, .iadd, 1), (1209, .iaload, 1), (1210, .invokevirtual 118, 3), (1213, .pop, 1), (1214, .goto 650, 3), (1217, .aload_n 1, 1), (1218, .aload_n 0, 1), (1219, .iload 4, 2), (1221, .iconst 1, 1), (1222, .iadd, 1), (1223, .iaload, 1), (1224, .aload_n 0, 1), (1225, .iload 4, 2), (1227, .iconst 2, 1), (1228, .iadd, 1), (1229, .iaload, 1), (1230, .invokevirtual 119, 3), (1233, .pop, 1), (1234, .aload_n 2, 1), (1235, .aload_n 0, 1), (1236, .iload 4, 2), (1238, .iconst 1, 1), (1239, .iadd, 1), (1240, .iaload, 1), (1241, .aload_n 0, 1), (1242, .iload 4, 2), (1244, .iconst 2, 1), (1245, .iadd, 1), (1246, .iaload, 1), (1247, .invokevirtual 122, 3), (1250, .pop, 1), (1251, .goto 613, 3), (1254, .aload_n 1, 1), (1255, .aload_n 0, 1), (1256, .iload 4, 2), (1258, .iconst 1, 1), (1259, .iadd, 1), (1260, .iaload, 1), (1261, .aload_n 0, 1), (1262, .iload 4, 2), (1264, .iconst 2, 1), (1265, .iadd, 1), (1266, .iaload, 1), (1267, .invokevirtual 123, 3), (1270, .pop, 1), (1271, .aload_n 2, 1), (1272, .aload_n 0, 1), (1273, .iload 4, 2), (1275, .iconst 1, 1), (1276, .iadd, 1), (1277, .iaload, 1), (1278, .aload_n 0, 1), (1279, .iload 4, 2), (1281, .iconst 2, 1), (1282, .iadd, 1), (1283, .iaload, 1), (1284, .invokevirtual 126, 3), (1287, .pop, 1), (1288, .goto 576, 3), (1291, .aload_n 1, 1)]) (by decide +kernel)
theorem dL_law_1203 : decode cL_law 1203 = .ok (.aload_n 2, 1) := row_of dLc_1203 0 rfl rfl
theorem dL_law_1204 : decode cL_law 1204 = .ok (.aload_n 0, 1) := row_of dLc_1203 1 rfl rfl
theorem dL_law_1205 : decode cL_law 1205 = .ok (.iload 4, 2) := row_of dLc_1203 2 rfl rfl
theorem dL_law_1207 : decode cL_law 1207 = .ok (.iconst 1, 1) := row_of dLc_1203 3 rfl rfl
theorem dL_law_1208 : decode cL_law 1208 = .ok (.iadd, 1) := row_of dLc_1203 4 rfl rfl
theorem dL_law_1209 : decode cL_law 1209 = .ok (.iaload, 1) := row_of dLc_1203 5 rfl rfl
theorem dL_law_1210 : decode cL_law 1210 = .ok (.invokevirtual 118, 3) := row_of dLc_1203 6 rfl rfl
theorem dL_law_1213 : decode cL_law 1213 = .ok (.pop, 1) := row_of dLc_1203 7 rfl rfl
theorem dL_law_1214 : decode cL_law 1214 = .ok (.goto 650, 3) := row_of dLc_1203 8 rfl rfl
theorem dL_law_1217 : decode cL_law 1217 = .ok (.aload_n 1, 1) := row_of dLc_1203 9 rfl rfl
theorem dL_law_1218 : decode cL_law 1218 = .ok (.aload_n 0, 1) := row_of dLc_1203 10 rfl rfl
theorem dL_law_1219 : decode cL_law 1219 = .ok (.iload 4, 2) := row_of dLc_1203 11 rfl rfl
theorem dL_law_1221 : decode cL_law 1221 = .ok (.iconst 1, 1) := row_of dLc_1203 12 rfl rfl
theorem dL_law_1222 : decode cL_law 1222 = .ok (.iadd, 1) := row_of dLc_1203 13 rfl rfl
theorem dL_law_1223 : decode cL_law 1223 = .ok (.iaload, 1) := row_of dLc_1203 14 rfl rfl
theorem dL_law_1224 : decode cL_law 1224 = .ok (.aload_n 0, 1) := row_of dLc_1203 15 rfl rfl
theorem dL_law_1225 : decode cL_law 1225 = .ok (.iload 4, 2) := row_of dLc_1203 16 rfl rfl
theorem dL_law_1227 : decode cL_law 1227 = .ok (.iconst 2, 1) := row_of dLc_1203 17 rfl rfl
theorem dL_law_1228 : decode cL_law 1228 = .ok (.iadd, 1) := row_of dLc_1203 18 rfl rfl
theorem dL_law_1229 : decode cL_law 1229 = .ok (.iaload, 1) := row_of dLc_1203 19 rfl rfl
theorem dL_law_1230 : decode cL_law 1230 = .ok (.invokevirtual 119, 3) := row_of dLc_1203 20 rfl rfl
theorem dL_law_1233 : decode cL_law 1233 = .ok (.pop, 1) := row_of dLc_1203 21 rfl rfl
theorem dL_law_1234 : decode cL_law 1234 = .ok (.aload_n 2, 1) := row_of dLc_1203 22 rfl rfl
theorem dL_law_1235 : decode cL_law 1235 = .ok (.aload_n 0, 1) := row_of dLc_1203 23 rfl rfl
theorem dL_law_1236 : decode cL_law 1236 = .ok (.iload 4, 2) := row_of dLc_1203 24 rfl rfl
theorem dL_law_1238 : decode cL_law 1238 = .ok (.iconst 1, 1) := row_of dLc_1203 25 rfl rfl
theorem dL_law_1239 : decode cL_law 1239 = .ok (.iadd, 1) := row_of dLc_1203 26 rfl rfl
theorem dL_law_1240 : decode cL_law 1240 = .ok (.iaload, 1) := row_of dLc_1203 27 rfl rfl
theorem dL_law_1241 : decode cL_law 1241 = .ok (.aload_n 0, 1) := row_of dLc_1203 28 rfl rfl
theorem dL_law_1242 : decode cL_law 1242 = .ok (.iload 4, 2) := row_of dLc_1203 29 rfl rfl
theorem dL_law_1244 : decode cL_law 1244 = .ok (.iconst 2, 1) := row_of dLc_1203 30 rfl rfl
theorem dL_law_1245 : decode cL_law 1245 = .ok (.iadd, 1) := row_of dLc_1203 31 rfl rfl
theorem dL_law_1246 : decode cL_law 1246 = .ok (.iaload, 1) := row_of dLc_1203 32 rfl rfl
theorem dL_law_1247 : decode cL_law 1247 = .ok (.invokevirtual 122, 3) := row_of dLc_1203 33 rfl rfl
theorem dL_law_1250 : decode cL_law 1250 = .ok (.pop, 1) := row_of dLc_1203 34 rfl rfl
theorem dL_law_1251 : decode cL_law 1251 = .ok (.goto 613, 3) := row_of dLc_1203 35 rfl rfl
theorem dL_law_1254 : decode cL_law 1254 = .ok (.aload_n 1, 1) := row_of dLc_1203 36 rfl rfl
theorem dL_law_1255 : decode cL_law 1255 = .ok (.aload_n 0, 1) := row_of dLc_1203 37 rfl rfl
theorem dL_law_1256 : decode cL_law 1256 = .ok (.iload 4, 2) := row_of dLc_1203 38 rfl rfl
theorem dL_law_1258 : decode cL_law 1258 = .ok (.iconst 1, 1) := row_of dLc_1203 39 rfl rfl
theorem dL_law_1259 : decode cL_law 1259 = .ok (.iadd, 1) := row_of dLc_1203 40 rfl rfl
theorem dL_law_1260 : decode cL_law 1260 = .ok (.iaload, 1) := row_of dLc_1203 41 rfl rfl
theorem dL_law_1261 : decode cL_law 1261 = .ok (.aload_n 0, 1) := row_of dLc_1203 42 rfl rfl
theorem dL_law_1262 : decode cL_law 1262 = .ok (.iload 4, 2) := row_of dLc_1203 43 rfl rfl
theorem dL_law_1264 : decode cL_law 1264 = .ok (.iconst 2, 1) := row_of dLc_1203 44 rfl rfl
theorem dL_law_1265 : decode cL_law 1265 = .ok (.iadd, 1) := row_of dLc_1203 45 rfl rfl
theorem dL_law_1266 : decode cL_law 1266 = .ok (.iaload, 1) := row_of dLc_1203 46 rfl rfl
theorem dL_law_1267 : decode cL_law 1267 = .ok (.invokevirtual 123, 3) := row_of dLc_1203 47 rfl rfl
theorem dL_law_1270 : decode cL_law 1270 = .ok (.pop, 1) := row_of dLc_1203 48 rfl rfl
theorem dL_law_1271 : decode cL_law 1271 = .ok (.aload_n 2, 1) := row_of dLc_1203 49 rfl rfl
theorem dL_law_1272 : decode cL_law 1272 = .ok (.aload_n 0, 1) := row_of dLc_1203 50 rfl rfl
theorem dL_law_1273 : decode cL_law 1273 = .ok (.iload 4, 2) := row_of dLc_1203 51 rfl rfl
theorem dL_law_1275 : decode cL_law 1275 = .ok (.iconst 1, 1) := row_of dLc_1203 52 rfl rfl
theorem dL_law_1276 : decode cL_law 1276 = .ok (.iadd, 1) := row_of dLc_1203 53 rfl rfl
theorem dL_law_1277 : decode cL_law 1277 = .ok (.iaload, 1) := row_of dLc_1203 54 rfl rfl
theorem dL_law_1278 : decode cL_law 1278 = .ok (.aload_n 0, 1) := row_of dLc_1203 55 rfl rfl
theorem dL_law_1279 : decode cL_law 1279 = .ok (.iload 4, 2) := row_of dLc_1203 56 rfl rfl
theorem dL_law_1281 : decode cL_law 1281 = .ok (.iconst 2, 1) := row_of dLc_1203 57 rfl rfl
theorem dL_law_1282 : decode cL_law 1282 = .ok (.iadd, 1) := row_of dLc_1203 58 rfl rfl
theorem dL_law_1283 : decode cL_law 1283 = .ok (.iaload, 1) := row_of dLc_1203 59 rfl rfl
theorem dL_law_1284 : decode cL_law 1284 = .ok (.invokevirtual 126, 3) := row_of dLc_1203 60 rfl rfl
theorem dL_law_1287 : decode cL_law 1287 = .ok (.pop, 1) := row_of dLc_1203 61 rfl rfl
theorem dL_law_1288 : decode cL_law 1288 = .ok (.goto 576, 3) := row_of dLc_1203 62 rfl rfl
theorem dL_law_1291 : decode cL_law 1291 = .ok (.aload_n 1, 1) := row_of dLc_1203 63 rfl rfl
theorem dLc_1292 : List.map (decode cL_law) [1292, 1293, 1295, 1296, 1297, 1298, 1299, 1301, 1302, 1303, 1304, 1305, 1307, 1308, 1309, 1310, 1313, 1314, 1315, 1316, 1318, 1319, 1320, 1321, 1322, 1324, 1325, 1326, 1327, 1328, 1330, 1331, 1332, 1333, 1336, 1337, 1340, 1341, 1342, 1344, 1345, 1346, 1347, 1348, 1350, 1351, 1352, 1353, 1354, 1356, 1357, 1358, 1359, 1362, 1363, 1364, 1365, 1367, 1368, 1369, 1370, 1371, 1373, 1374] = [.ok (.aload_n 0, 1), .ok (.iload 4, 2), .ok (.iconst 1, 1), .ok (.iadd, 1), .ok (.iaload, 1), .ok (.aload_n 0, 1), .ok (.iload 4, 2), .ok (.iconst 2, 1), .ok (.iadd, 1), .ok (.iaload, 1), .ok (.aload_n 0, 1), .ok (.iload 4, 2), .ok (.iconst 3, 1), .ok (.iadd, 1), .ok (.iaload, 1), .ok (.invokevirtual 127, 3), .ok (.pop, 1), .ok (.aload_n 2, 1), .ok (.aload_n 0, 1), .ok (.iload 4, 2), .ok (.iconst 1, 1), .ok (.iadd, 1), .ok (.iaload, 1), .ok (.aload_n 0, 1), .ok (.iload 4, 2), .ok (.iconst 2, 1), .ok (.iadd, 1), .ok (.iaload, 1), .ok (.aload_n 0, 1), .ok (.iload 4, 2), .ok (.iconst 3, 1), .ok (.iadd, 1), .ok (.iaload, 1), .ok (.invokevirtual 130, 3), .ok (.pop, 1), .ok (.goto 527, 3), .ok (.aload_n 1, 1), .ok (.aload_n 0, 1), .ok (.iload 4, 2), .ok (.iconst 1, 1), .ok (.iadd, 1), .ok (.iaload, 1), .ok (.aload_n 0, 1), .ok (.iload 4, 2), .ok (.iconst 2, 1), .ok (.iadd, 1), .ok (.iaload, 1), .ok (.aload_n 0, 1), .ok (.iload 4, 2), .ok (.iconst 3, 1), .ok (.iadd, 1), .ok (.iaload, 1), .ok (.invokevirtual 131, 3), .ok (.pop, 1), .ok (.aload_n 2, 1), .ok (.aload_n 0, 1), .ok (.iload 4, 2), .ok (.iconst 1, 1), .ok (.iadd, 1), .ok (.iaload, 1), .ok (.aload_n 0, 1), .ok (.iload 4, 2), .ok (.iconst 2, 1), .ok (.iadd, 1)] := wk_map (t := [(1292, .aload_n 0, 1), (1293, .iload 4, 2), (1295, .iconst 1, 1), (1296, .iadd, 1), (1297, .iaload, 1), (1298, .aload_n 0, 1), (1299, .iload 4, 2), (1301, .iconst 2, 1), (1302, .iadd, 1), (1303, .iaload, 1), (1304, .aload_n 0, 1), (1305, .iload 4, 2), (1307, .iconst 3, 1), (1308, .iadd, 1), (1309, .iaload, 1), (1310, .invokevirtual 127, 3), (1313, .pop, 1), (1314, .aload_n 2, 1), (1315, .aload_n 0, 1), (1316, .iload 4, 2), (1318, .iconst 1, 1), (1319, .iadd, 1), (1320, .iaload, 1), (1321, .aload_n 0, 1), (1322, .iload 4, 2), (1324, .iconst 2, 1), (1325, .iadd, 1), (1326, .iaload, 1), (1327, .aload_n 0, 1), (1328, .iload 4, 2), (1330, .iconst 3, 1), (1331, .iadd, 1), (1332, .iaload, 1), (1333, .invokevirtual 130, 3), (1336, .pop, 1), (1337, .goto 527, 3), (1340, .aload_n 1, 1), (1341, .aload_n 0, 1), (1342, .iload 4, 2), (1344, .iconst 1, 1), (1345, .iadd, 1), (1346, .iaload, 1), (1347, .aload_n 0, 1), (1348, .iload 4, 2), (1350, .iconst 2, 1), (1351, .iadd, 1), (1352, .iaload, 1), (1353, .aload_n 0, 1), (1354, .iload 4, 2), (1356, .iconst 3, 1), (1357, .iadd, 1), (1358, .iaload, 1), (1359, .invokevirtual 131, 3), (1362, .pop, 1), (1363, .aload_n 2, 1), (1364, .aload_n 0, 1), (1365, .iload 4, 2), (1367, .iconst 1, 1), (1368, .iadd, 1), (1369, .iaload, 1), (1370, .aload_n 0, 1), (1371, .iload 4, 2), (1373, .iconst 2, 1), (1374, .iadd, 1)]) (by decide +kernel)
theorem dL_law_1292 : decode cL_law 1292 = .ok (.aload_n 0, 1) := row_of dLc_1292 0 rfl rfl
theorem dL_law_1293 : decode cL_law 1293 = .ok (.iload 4, 2) := row_of dLc_1292 1 rfl rfl
theorem dL_law_1295 : decode cL_law 1295 = .ok (.iconst 1, 1) := row_of dLc_1292 2 rfl rfl
theorem dL_law_1296 : decode cL_law 1296 = .ok (.iadd, 1) := row_of dLc_1292 3 rfl rfl
theorem dL_law_1297 : decode cL_law 1297 = .ok (.iaload, 1) := row_of dLc_1292 4 rfl rfl
theorem dL_law_1298 : decode cL_law 1298 = .ok (.aload_n 0, 1) := row_of dLc_1292 5 rfl rfl
theorem dL_law_1299 : decode cL_law 1299 = .ok (.iload 4, 2) := row_of dLc_1292 6 rfl rfl
theorem dL_law_1301 : decode cL_law 1301 = .ok (.iconst 2, 1) := row_of dLc_1292 7 rfl rfl
theorem dL_law_1302 : decode cL_law 1302 = .ok (.iadd, 1) := row_of dLc_1292 8 rfl rfl
theorem dL_law_1303 : decode cL_law 1303 = .ok (.iaload, 1) := row_of dLc_1292 9 rfl rfl
theorem dL_law_1304 : decode cL_law 1304 = .ok (.aload_n 0, 1) := row_of dLc_1292 10 rfl rfl
theorem dL_law_1305 : decode cL_law 1305 = .ok (.iload 4, 2) := row_of dLc_1292 11 rfl rfl
theorem dL_law_1307 : decode cL_law 1307 = .ok (.iconst 3, 1) := row_of dLc_1292 12 rfl rfl
theorem dL_law_1308 : decode cL_law 1308 = .ok (.iadd, 1) := row_of dLc_1292 13 rfl rfl
theorem dL_law_1309 : decode cL_law 1309 = .ok (.iaload, 1) := row_of dLc_1292 14 rfl rfl
theorem dL_law_1310 : decode cL_law 1310 = .ok (.invokevirtual 127, 3) := row_of dLc_1292 15 rfl rfl
theorem dL_law_1313 : decode cL_law 1313 = .ok (.pop, 1) := row_of dLc_1292 16 rfl rfl
theorem dL_law_1314 : decode cL_law 1314 = .ok (.aload_n 2, 1) := row_of dLc_1292 17 rfl rfl
theorem dL_law_1315 : decode cL_law 1315 = .ok (.aload_n 0, 1) := row_of dLc_1292 18 rfl rfl
theorem dL_law_1316 : decode cL_law 1316 = .ok (.iload 4, 2) := row_of dLc_1292 19 rfl rfl
theorem dL_law_1318 : decode cL_law 1318 = .ok (.iconst 1, 1) := row_of dLc_1292 20 rfl rfl
theorem dL_law_1319 : decode cL_law 1319 = .ok (.iadd, 1) := row_of dLc_1292 21 rfl rfl
theorem dL_law_1320 : decode cL_law 1320 = .ok (.iaload, 1) := row_of dLc_1292 22 rfl rfl
theorem dL_law_1321 : decode cL_law 1321 = .ok (.aload_n 0, 1) := row_of dLc_1292 23 rfl rfl
theorem dL_law_1322 : decode cL_law 1322 = .ok (.iload 4, 2) := row_of dLc_1292 24 rfl rfl
theorem dL_law_1324 : decode cL_law 1324 = .ok (.iconst 2, 1) := row_of dLc_1292 25 rfl rfl
theorem dL_law_1325 : decode cL_law 1325 = .ok (.iadd, 1) := row_of dLc_1292 26 rfl rfl
theorem dL_law_1326 : decode cL_law 1326 = .ok (.iaload, 1) := row_of dLc_1292 27 rfl rfl
theorem dL_law_1327 : decode cL_law 1327 = .ok (.aload_n 0, 1) := row_of dLc_1292 28 rfl rfl
theorem dL_law_1328 : decode cL_law 1328 = .ok (.iload 4, 2) := row_of dLc_1292 29 rfl rfl
theorem dL_law_1330 : decode cL_law 1330 = .ok (.iconst 3, 1) := row_of dLc_1292 30 rfl rfl
theorem dL_law_1331 : decode cL_law 1331 = .ok (.iadd, 1) := row_of dLc_1292 31 rfl rfl
theorem dL_law_1332 : decode cL_law 1332 = .ok (.iaload, 1) := row_of dLc_1292 32 rfl rfl
theorem dL_law_1333 : decode cL_law 1333 = .ok (.invokevirtual 130, 3) := row_of dLc_1292 33 rfl rfl
theorem dL_law_1336 : decode cL_law 1336 = .ok (.pop, 1) := row_of dLc_1292 34 rfl rfl
theorem dL_law_1337 : decode cL_law 1337 = .ok (.goto 527, 3) := row_of dLc_1292 35 rfl rfl
theorem dL_law_1340 : decode cL_law 1340 = .ok (.aload_n 1, 1) := row_of dLc_1292 36 rfl rfl
theorem dL_law_1341 : decode cL_law 1341 = .ok (.aload_n 0, 1) := row_of dLc_1292 37 rfl rfl
theorem dL_law_1342 : decode cL_law 1342 = .ok (.iload 4, 2) := row_of dLc_1292 38 rfl rfl
theorem dL_law_1344 : decode cL_law 1344 = .ok (.iconst 1, 1) := row_of dLc_1292 39 rfl rfl
theorem dL_law_1345 : decode cL_law 1345 = .ok (.iadd, 1) := row_of dLc_1292 40 rfl rfl
theorem dL_law_1346 : decode cL_law 1346 = .ok (.iaload, 1) := row_of dLc_1292 41 rfl rfl
theorem dL_law_1347 : decode cL_law 1347 = .ok (.aload_n 0, 1) := row_of dLc_1292 42 rfl rfl
theorem dL_law_1348 : decode cL_law 1348 = .ok (.iload 4, 2) := row_of dLc_1292 43 rfl rfl
theorem dL_law_1350 : decode cL_law 1350 = .ok (.iconst 2, 1) := row_of dLc_1292 44 rfl rfl
theorem dL_law_1351 : decode cL_law 1351 = .ok (.iadd, 1) := row_of dLc_1292 45 rfl rfl
theorem dL_law_1352 : decode cL_law 1352 = .ok (.iaload, 1) := row_of dLc_1292 46 rfl rfl
theorem dL_law_1353 : decode cL_law 1353 = .ok (.aload_n 0, 1) := row_of dLc_1292 47 rfl rfl
theorem dL_law_1354 : decode cL_law 1354 = .ok (.iload 4, 2) := row_of dLc_1292 48 rfl rfl
theorem dL_law_1356 : decode cL_law 1356 = .ok (.iconst 3, 1) := row_of dLc_1292 49 rfl rfl
theorem dL_law_1357 : decode cL_law 1357 = .ok (.iadd, 1) := row_of dLc_1292 50 rfl rfl
theorem dL_law_1358 : decode cL_law 1358 = .ok (.iaload, 1) := row_of dLc_1292 51 rfl rfl
theorem dL_law_1359 : decode cL_law 1359 = .ok (.invokevirtual 131, 3) := row_of dLc_1292 52 rfl rfl
theorem dL_law_1362 : decode cL_law 1362 = .ok (.pop, 1) := row_of dLc_1292 53 rfl rfl
theorem dL_law_1363 : decode cL_law 1363 = .ok (.aload_n 2, 1) := row_of dLc_1292 54 rfl rfl
theorem dL_law_1364 : decode cL_law 1364 = .ok (.aload_n 0, 1) := row_of dLc_1292 55 rfl rfl
theorem dL_law_1365 : decode cL_law 1365 = .ok (.iload 4, 2) := row_of dLc_1292 56 rfl rfl
theorem dL_law_1367 : decode cL_law 1367 = .ok (.iconst 1, 1) := row_of dLc_1292 57 rfl rfl
theorem dL_law_1368 : decode cL_law 1368 = .ok (.iadd, 1) := row_of dLc_1292 58 rfl rfl
theorem dL_law_1369 : decode cL_law 1369 = .ok (.iaload, 1) := row_of dLc_1292 59 rfl rfl
theorem dL_law_1370 : decode cL_law 1370 = .ok (.aload_n 0, 1) := row_of dLc_1292 60 rfl rfl
theorem dL_law_1371 : decode cL_law 1371 = .ok (.iload 4, 2) := row_of dLc_1292 61 rfl rfl
theorem dL_law_1373 : decode cL_law 1373 = .ok (.iconst 2, 1) := row_of dLc_1292 62 rfl rfl
theorem dL_law_1374 : decode cL_law 1374 = .ok (.iadd, 1) := row_of dLc_1292 63 rfl rfl
theorem dLc_1375 : List.map (decode cL_law) [1375, 1376, 1377, 1379, 1380, 1381, 1382, 1385, 1386, 1389, 1390, 1391, 1393, 1394, 1395, 1396, 1399, 1400, 1401, 1402, 1404, 1405, 1406, 1407, 1410, 1411, 1414, 1415, 1416, 1418, 1419, 1420, 1421, 1422, 1424, 1425, 1426, 1427, 1430, 1431, 1432, 1433, 1435, 1436, 1437, 1438, 1439, 1441, 1442, 1443, 1444, 1447, 1448, 1451, 1452, 1453, 1455, 1456, 1457, 1458, 1459, 1461, 1462, 1463] = [.ok (.iaload, 1), .ok (.aload_n 0, 1), .ok (.iload 4, 2), .ok (.iconst 3, 1), .ok (.iadd, 1), .ok (.iaload, 1), .ok (.invokevirtual 134, 3), .ok (.pop, 1), .ok (.goto 478, 3), .ok (.aload_n 1, 1), .ok (.aload_n 0, 1), .ok (.iload 4, 2), .ok (.iconst 1, 1), .ok (.iadd, 1), .ok (.iaload, 1), .ok (.invokevirtual 135, 3), .ok (.pop, 1), .ok (.aload_n 2, 1), .ok (.aload_n 0, 1), .ok (.iload 4, 2), .ok (.iconst 1, 1), .ok (.iadd, 1), .ok (.iaload, 1), .ok (.invokevirtual 138, 3), .ok (.pop, 1), .ok (.goto 453, 3), .ok (.aload_n 1, 1), .ok (.aload_n 0, 1), .ok (.iload 4, 2), .ok (.iconst 1, 1), .ok (.iadd, 1), .ok (.iaload, 1), .ok (.aload_n 0, 1), .ok (.iload 4, 2), .ok (.iconst 2, 1), .ok (.iadd, 1), .ok (.iaload, 1), .ok (.invokevirtual 139, 3), .ok (.pop, 1), .ok (.aload_n 2, 1), .ok (.aload_n 0, 1), .ok (.iload 4, 2), .ok (.iconst 1, 1), .ok (.iadd, 1), .ok (.iaload, 1), .ok (.aload_n 0, 1), .ok (.iload 4, 2), .ok (.iconst 2, 1), .ok (.iadd, 1), .ok (.iaload, 1), .ok (.invokevirtual 142, 3), .ok (.pop, 1), .ok (.goto 416, 3), .ok (.aload_n 1, 1), .ok (.aload_n 0, 1), .ok (.iload 4, 2), .ok (.iconst 1, 1), .ok (.iadd, 1), .ok (.iaload, 1), .ok (.aload_n 0, 1), .ok (.iload 4, 2), .ok (.iconst 2, 1), .ok (.iadd, 1), .ok (.iaload, 1)] := wk_map (t := [(1375, .iaload, 1), (1376, .aload_n 0, 1), (1377, .iload 4, 2), (1379, .iconst 3, 1), (1380, .iadd, 1), (1381, .iaload, 1), (1382, .invokevirtual 134, 3), (1385, .pop, 1), (1386, .goto 478, 3), (1389, .aload_n 1, 1), (1390, .aload_n 0, 1), (1391, .iload 4, 2), (1393, .iconst 1, 1), (1394, .iadd, 1), (1395, .iaload, 1), (1396, .invokevirtual 135, 3), (1399, .pop, 1), (1400, .aload_n 2, 1), (1401, .aload_n 0, 1), (1402, .iload 4, 2), (1404, .iconst 1, 1), (1405, .iadd, 1), (1406, .iaload, 1), (1407, .invokevirtual 138, 3), (1410, .pop, 1), (1411, .goto 453, 3), (1414, .aload_n 1, 1), (1415, .aload_n 0, 1), (1416, .iload 4, 2), (1418, .iconst 1, 1), (1419, .iadd, 1), (1420, .iaload, 1), (1421, .aload_n 0, 1), (1422, .iload 4, 2), (1424, .iconst 2, 1), (1425, .iadd, 1), (1426, .iaload, 1), (1427, .invokevirtual 139, 3), (1430, .pop, 1), (1431, .aload_n 2, 1), (1432, .aload_n 0, 1), (1433, .iload 4, 2), (1435, .iconst 1, 1), (1436, .iadd, 1), (1437, .iaload, 1), (1438, .aload_n 0, 1), (1439, .iload 4, 2), (1441, .iconst 2, 1), (1442, .iadd, 1), (1443, .iaload, 1), (1444, .invokevirtual 142, 3), (1447, .pop, 1), (1448, .goto 416, 3), (1451, .aload_n 1, 1), (1452, .aload_n 0, 1), (1453, .iload 4, 2), (1455, .iconst 1, 1), (1456, .iadd, 1), (1457, .iaload, 1), (1458, .aload_n 0, 1), (1459, .iload 4, 2), (1461, .iconst 2, 1), (1462, .iadd, 1), (1463, .iaload, 1)]) (by decide +kernel)
theorem dL_law_1375 : decode cL_law 1375 = .ok (.iaload, 1) := row_of dLc_1375 0 rfl rfl
theorem dL_law_1376 : decode cL_law 1376 = .ok (.aload_n 0, 1) := row_of dLc_1375 1 rfl rfl
theorem dL_law_1377 : decode cL_law 1377 = .ok (.iload 4, 2) := row_of dLc_1375 2 rfl rfl
theorem dL_law_1379 : decode cL_law 1379 = .ok (.iconst 3, 1) := row_of dLc_1375 3 rfl rfl
theorem dL_law_1380 : decode cL_law 1380 = .ok (.iadd, 1) := row_of dLc_1375 4 rfl rfl
theorem dL_law_1381 : decode cL_law 1381 = .ok (.iaload, 1) := row_of dLc_1375 5 rfl rfl
theorem dL_law_1382 : decode cL_law 1382 = .ok (.invokevirtual 134, 3) := row_of dLc_1375 6 rfl rfl
theorem dL_law_1385 : decode cL_law 1385 = .ok (.pop, 1) := row_of dLc_1375 7 rfl rfl
theorem dL_law_1386 : decode cL_law 1386 = .ok (.goto 478, 3) := row_of dLc_1375 8 rfl rfl
theorem dL_law_1389 : decode cL_law 1389 = .ok (.aload_n 1, 1) := row_of dLc_1375 9 rfl rfl
theorem dL_law_1390 : decode cL_law 1390 = .ok (.aload_n 0, 1) := row_of dLc_1375 10 rfl rfl
theorem dL_law_1391 : decode cL_law 1391 = .ok (.iload 4, 2) := row_of dLc_1375 11 rfl rfl
theorem dL_law_1393 : decode cL_law 1393 = .ok (.iconst 1, 1) := row_of dLc_1375 12 rfl rfl
theorem dL_law_1394 : decode cL_law 1394 = .ok (.iadd, 1) := row_of dLc_1375 13 rfl rfl
theorem dL_law_1395 : decode cL_law 1395 = .ok (.iaload, 1) := row_of dLc_1375 14 rfl rfl
theorem dL_law_1396 : decode cL_law 1396 = .ok (.invokevirtual 135, 3) := row_of dLc_1375 15 rfl rfl
theorem dL_law_1399 : decode cL_law 1399 = .ok (.pop, 1) := row_of dLc_1375 16 rfl rfl
theorem dL_law_1400 : decode cL_law 1400 = .ok (.aload_n 2, 1) := row_of dLc_1375 17 rfl rfl
theorem dL_law_1401 : decode cL_law 1401 = .ok (.aload_n 0, 1) := row_of dLc_1375 18 rfl rfl
theorem dL_law_1402 : decode cL_law 1402 = .ok (.iload 4, 2) := row_of dLc_1375 19 rfl rfl
theorem dL_law_1404 : decode cL_law 1404 = .ok (.iconst 1, 1) := row_of dLc_1375 20 rfl rfl
theorem dL_law_1405 : decode cL_law 1405 = .ok (.iadd, 1) := row_of dLc_1375 21 rfl rfl
theorem dL_law_1406 : decode cL_law 1406 = .ok (.iaload, 1) := row_of dLc_1375 22 rfl rfl
theorem dL_law_1407 : decode cL_law 1407 = .ok (.invokevirtual 138, 3) := row_of dLc_1375 23 rfl rfl
theorem dL_law_1410 : decode cL_law 1410 = .ok (.pop, 1) := row_of dLc_1375 24 rfl rfl
theorem dL_law_1411 : decode cL_law 1411 = .ok (.goto 453, 3) := row_of dLc_1375 25 rfl rfl
theorem dL_law_1414 : decode cL_law 1414 = .ok (.aload_n 1, 1) := row_of dLc_1375 26 rfl rfl
theorem dL_law_1415 : decode cL_law 1415 = .ok (.aload_n 0, 1) := row_of dLc_1375 27 rfl rfl
theorem dL_law_1416 : decode cL_law 1416 = .ok (.iload 4, 2) := row_of dLc_1375 28 rfl rfl
theorem dL_law_1418 : decode cL_law 1418 = .ok (.iconst 1, 1) := row_of dLc_1375 29 rfl rfl
theorem dL_law_1419 : decode cL_law 1419 = .ok (.iadd, 1) := row_of dLc_1375 30 rfl rfl
theorem dL_law_1420 : decode cL_law 1420 = .ok (.iaload, 1) := row_of dLc_1375 31 rfl rfl
theorem dL_law_1421 : decode cL_law 1421 = .ok (.aload_n 0, 1) := row_of dLc_1375 32 rfl rfl
theorem dL_law_1422 : decode cL_law 1422 = .ok (.iload 4, 2) := row_of dLc_1375 33 rfl rfl
theorem dL_law_1424 : decode cL_law 1424 = .ok (.iconst 2, 1) := row_of dLc_1375 34 rfl rfl
theorem dL_law_1425 : decode cL_law 1425 = .ok (.iadd, 1) := row_of dLc_1375 35 rfl rfl
theorem dL_law_1426 : decode cL_law 1426 = .ok (.iaload, 1) := row_of dLc_1375 36 rfl rfl
theorem dL_law_1427 : decode cL_law 1427 = .ok (.invokevirtual 139, 3) := row_of dLc_1375 37 rfl rfl
theorem dL_law_1430 : decode cL_law 1430 = .ok (.pop, 1) := row_of dLc_1375 38 rfl rfl
theorem dL_law_1431 : decode cL_law 1431 = .ok (.aload_n 2, 1) := row_of dLc_1375 39 rfl rfl
theorem dL_law_1432 : decode cL_law 1432 = .ok (.aload_n 0, 1) := row_of dLc_1375 40 rfl rfl
theorem dL_law_1433 : decode cL_law 1433 = .ok (.iload 4, 2) := row_of dLc_1375 41 rfl rfl
theorem dL_law_1435 : decode cL_law 1435 = .ok (.iconst 1, 1) := row_of dLc_1375 42 rfl rfl
theorem dL_law_1436 : decode cL_law 1436 = .ok (.iadd, 1) := row_of dLc_1375 43 rfl rfl
theorem dL_law_1437 : decode cL_law 1437 = .ok (.iaload, 1) := row_of dLc_1375 44 rfl rfl
theorem dL_law_1438 : decode cL_law 1438 = .ok (.aload_n 0, 1) := row_of dLc_1375 45 rfl rfl
theorem dL_law_1439 : decode cL_law 1439 = .ok (.iload 4, 2) := row_of dLc_1375 46 rfl rfl
theorem dL_law_1441 : decode cL_law 1441 = .ok (.iconst 2, 1) := row_of dLc_1375 47 rfl rfl
theorem dL_law_1442 : decode cL_law 1442 = .ok (.iadd, 1) := row_of dLc_1375 48 rfl rfl
theorem dL_law_1443 : decode cL_law 1443 = .ok (.iaload, 1) := row_of dLc_1375 49 rfl rfl
theorem dL_law_1444 : decode cL_law 1444 = .ok (.invokevirtual 142, 3) := row_of dLc_1375 50 rfl rfl
theorem dL_law_1447 : decode cL_law 1447 = .ok (.pop, 1) := row_of dLc_1375 51 rfl rfl
theorem dL_law_1448 : decode cL_law 1448 = .ok (.goto 416, 3) := row_of dLc_1375 52 rfl rfl
theorem dL_law_1451 : decode cL_law 1451 = .ok (.aload_n 1, 1) := row_of dLc_1375 53 rfl rfl
theorem dL_law_1452 : decode cL_law 1452 = .ok (.aload_n 0, 1) := row_of dLc_1375 54 rfl rfl
theorem dL_law_1453 : decode cL_law 1453 = .ok (.iload 4, 2) := row_of dLc_1375 55 rfl rfl
theorem dL_law_1455 : decode cL_law 1455 = .ok (.iconst 1, 1) := row_of dLc_1375 56 rfl rfl
theorem dL_law_1456 : decode cL_law 1456 = .ok (.iadd, 1) := row_of dLc_1375 57 rfl rfl
theorem dL_law_1457 : decode cL_law 1457 = .ok (.iaload, 1) := row_of dLc_1375 58 rfl rfl
theorem dL_law_1458 : decode cL_law 1458 = .ok (.aload_n 0, 1) := row_of dLc_1375 59 rfl rfl
theorem dL_law_1459 : decode cL_law 1459 = .ok (.iload 4, 2) := row_of dLc_1375 60 rfl rfl
theorem dL_law_1461 : decode cL_law 1461 = .ok (.iconst 2, 1) := row_of dLc_1375 61 rfl rfl
theorem dL_law_1462 : decode cL_law 1462 = .ok (.iadd, 1) := row_of dLc_1375 62 rfl rfl
theorem dL_law_1463 : decode cL_law 1463 = .ok (.iaload, 1) := row_of dLc_1375 63 rfl rfl
theorem dLc_1464 : List.map (decode cL_law) [1464, 1465, 1467, 1468, 1469, 1470, 1471, 1473, 1474, 1475, 1476, 1479, 1480, 1481, 1482, 1484, 1485, 1486, 1487, 1488, 1490, 1491, 1492, 1493, 1494, 1496, 1497, 1498, 1499, 1500, 1502, 1503, 1504, 1505, 1508, 1509, 1512, 1513, 1514, 1516, 1517, 1518, 1519, 1520, 1522, 1523, 1524, 1525, 1528, 1529, 1530, 1531, 1533, 1534, 1535, 1536, 1537, 1539, 1540, 1541, 1542, 1545, 1546, 1549] = [.ok (.aload_n 0, 1), .ok (.iload 4, 2), .ok (.iconst 3, 1), .ok (.iadd, 1), .ok (.iaload, 1), .ok (.aload_n 0, 1), .ok (.iload 4, 2), .ok (.iconst 4, 1), .ok (.iadd, 1), .ok (.iaload, 1), .ok (.invokevirtual 143, 3), .ok (.pop, 1), .ok (.aload_n 2, 1), .ok (.aload_n 0, 1), .ok (.iload 4, 2), .ok (.iconst 1, 1), .ok (.iadd, 1), .ok (.iaload, 1), .ok (.aload_n 0, 1), .ok (.iload 4, 2), .ok (.iconst 2, 1), .ok (.iadd, 1), .ok (.iaload, 1), .ok (.aload_n 0, 1), .ok (.iload 4, 2), .ok (.iconst 3, 1), .ok (.iadd, 1), .ok (.iaload, 1), .ok (.aload_n 0, 1), .ok (.iload 4, 2), .ok (.iconst 4, 1), .ok (.iadd, 1), .ok (.iaload, 1), .ok (.invokevirtual 146, 3), .ok (.pop, 1), .ok (.goto 355, 3), .ok (.aload_n 1, 1), .ok (.aload_n 0, 1), .ok (.iload 4, 2), .ok (.iconst 1, 1), .ok (.iadd, 1), .ok (.iaload, 1), .ok (.aload_n 0, 1), .ok (.iload 4, 2), .ok (.iconst 2, 1), .ok (.iadd, 1), .ok (.iaload, 1), .ok (.invokevirtual 147, 3), .ok (.pop, 1), .ok (.aload_n 2, 1), .ok (.aload_n 0, 1), .ok (.iload 4, 2), .ok (.iconst 1, 1), .ok (.iadd, 1), .ok (.iaload, 1), .ok (.aload_n 0, 1), .ok (.iload 4, 2), .ok (.iconst 2, 1), .ok (.iadd, 1), .ok (.iaload, 1), .ok (.invokevirtual 150, 3), .ok (.pop, 1), .ok (.goto 318, 3), .ok (.aload_n 1, 1)] := wk_map (t := [(1464, .aload_n 0, 1), (1465, .iload 4, 2), (1467, .iconst 3, 1), (1468, .iadd, 1), (1469, .iaload, 1), (1470, .aload_n 0, 1), (1471, .iload 4, 2), (1473, .iconst 4, 1), (1474, .iadd, 1), (1475, .iaload, 1), (1476, .invokevirtual 143, 3), (1479, .pop, 1), (1480, .aload_n 2, 1), (1481, .aload_n 0, 1), (1482, .iload 4, 2), (1484, .iconst 1, 1), (1485, .iadd, 1), (1486, .iaload, 1), (1487, .aload_n 0, 1), (1488, .iload 4, 2), (1490, .iconst 2, 1), (1491, .iadd, 1), (1492, .iaload, 1), (1493, .aload_n 0, 1), (1494, .iload 4, 2), (1496, .iconst 3, 1), (1497, .iadd, 1), (1498, .iaload, 1), (1499, .aload_n 0, 1), (1500, .iload 4, 2), (1502, .iconst 4, 1), (1503, .iadd, 1), (1504, .iaload, 1), (1505, .invokevirtual 146, 3), (1508, .pop, 1), (1509, .goto 355, 3), (1512, .aload_n 1, 1), (1513, .aload_n 0, 1), (1514, .iload 4, 2), (1516, .iconst 1, 1), (1517, .iadd, 1), (1518, .iaload, 1), (1519, .aload_n 0, 1), (1520, .iload 4, 2), (1522, .iconst 2, 1), (1523, .iadd, 1), (1524, .iaload, 1), (1525, .invokevirtual 147, 3), (1528, .pop, 1), (1529, .aload_n 2, 1), (1530, .aload_n 0, 1), (1531, .iload 4, 2), (1533, .iconst 1, 1), (1534, .iadd, 1), (1535, .iaload, 1), (1536, .aload_n 0, 1), (1537, .iload 4, 2), (1539, .iconst 2, 1), (1540, .iadd, 1), (1541, .iaload, 1), (1542, .invokevirtual 150, 3), (1545, .pop, 1), (1546, .goto 318, 3), (1549, .aload_n 1, 1)]) (by decide +kernel)
theorem dL_law_1464 : decode cL_law 1464 = .ok (.aload_n 0, 1) := row_of dLc_1464 0 rfl rfl
theorem dL_law_1465 : decode cL_law 1465 = .ok (.iload 4, 2) := row_of dLc_1464 1 rfl rfl
theorem dL_law_1467 : decode cL_law 1467 = .ok (.iconst 3, 1) := row_of dLc_1464 2 rfl rfl
theorem dL_law_1468 : decode cL_law 1468 = .ok (.iadd, 1) := row_of dLc_1464 3 rfl rfl
theorem dL_law_1469 : decode cL_law 1469 = .ok (.iaload, 1) := row_of dLc_1464 4 rfl rfl
theorem dL_law_1470 : decode cL_law 1470 = .ok (.aload_n 0, 1) := row_of dLc_1464 5 rfl rfl
theorem dL_law_1471 : decode cL_law 1471 = .ok (.iload 4, 2) := row_of dLc_1464 6 rfl rfl
theorem dL_law_1473 : decode cL_law 1473 = .ok (.iconst 4, 1) := row_of dLc_1464 7 rfl rfl
theorem dL_law_1474 : decode cL_law 1474 = .ok (.iadd, 1) := row_of dLc_1464 8 rfl rfl
theorem dL_law_1475 : decode cL_law 1475 = .ok (.iaload, 1) := row_of dLc_1464 9 rfl rfl
theorem dL_law_1476 : decode cL_law 1476 = .ok (.invokevirtual 143, 3) := row_of dLc_1464 10 rfl rfl
theorem dL_law_1479 : decode cL_law 1479 = .ok (.pop, 1) := row_of dLc_1464 11 rfl rfl
theorem dL_law_1480 : decode cL_law 1480 = .ok (.aload_n 2, 1) := row_of dLc_1464 12 rfl rfl
theorem dL_law_1481 : decode cL_law 1481 = .ok (.aload_n 0, 1) := row_of dLc_1464 13 rfl rfl
theorem dL_law_1482 : decode cL_law 1482 = .ok (.iload 4, 2) := row_of dLc_1464 14 rfl rfl
theorem dL_law_1484 : decode cL_law 1484 = .ok (.iconst 1, 1) := row_of dLc_1464 15 rfl rfl
theorem dL_law_1485 : decode cL_law 1485 = .ok (.iadd, 1) := row_of dLc_1464 16 rfl rfl
theorem dL_law_1486 : decode cL_law 1486 = .ok (.iaload, 1) := row_of dLc_1464 17 rfl rfl
theorem dL_law_1487 : decode cL_law 1487 = .ok (.aload_n 0, 1) := row_of dLc_1464 18 rfl rfl
theorem dL_law_1488 : decode cL_law 1488 = .ok (.iload 4, 2) := row_of dLc_1464 19 rfl rfl
theorem dL_law_1490 : decode cL_law 1490 = .ok (.iconst 2, 1) := row_of dLc_1464 20 rfl rfl
theorem dL_law_1491 : decode cL_law 1491 = .ok (.iadd, 1) := row_of dLc_1464 21 rfl rfl
theorem dL_law_1492 : decode cL_law 1492 = .ok (.iaload, 1) := row_of dLc_1464 22 rfl rfl
theorem dL_law_1493 : decode cL_law 1493 = .ok (.aload_n 0, 1) := row_of dLc_1464 23 rfl rfl
theorem dL_law_1494 : decode cL_law 1494 = .ok (.iload 4, 2) := row_of dLc_1464 24 rfl rfl
theorem dL_law_1496 : decode cL_law 1496 = .ok (.iconst 3, 1) := row_of dLc_1464 25 rfl rfl
theorem dL_law_1497 : decode cL_law 1497 = .ok (.iadd, 1) := row_of dLc_1464 26 rfl rfl
theorem dL_law_1498 : decode cL_law 1498 = .ok (.iaload, 1) := row_of dLc_1464 27 rfl rfl
theorem dL_law_1499 : decode cL_law 1499 = .ok (.aload_n 0, 1) := row_of dLc_1464 28 rfl rfl
theorem dL_law_1500 : decode cL_law 1500 = .ok (.iload 4, 2) := row_of dLc_1464 29 rfl rfl
theorem dL_law_1502 : decode cL_law 1502 = .ok (.iconst 4, 1) := row_of dLc_1464 30 rfl rfl
theorem dL_law_1503 : decode cL_law 1503 = .ok (.iadd, 1) := row_of dLc_1464 31 rfl rfl
theorem dL_law_1504 : decode cL_law 1504 = .ok (.iaload, 1) := row_of dLc_1464 32 rfl rfl
theorem dL_law_1505 : decode cL_law 1505 = .ok (.invokevirtual 146, 3) := row_of dLc_1464 33 rfl rfl
theorem dL_law_1508 : decode cL_law 1508 = .ok (.pop, 1) := row_of dLc_1464 34 rfl rfl
theorem dL_law_1509 : decode cL_law 1509 = .ok (.goto 355, 3) := row_of dLc_1464 35 rfl rfl
theorem dL_law_1512 : decode cL_law 1512 = .ok (.aload_n 1, 1) := row_of dLc_1464 36 rfl rfl
theorem dL_law_1513 : decode cL_law 1513 = .ok (.aload_n 0, 1) := row_of dLc_1464 37 rfl rfl
theorem dL_law_1514 : decode cL_law 1514 = .ok (.iload 4, 2) := row_of dLc_1464 38 rfl rfl
theorem dL_law_1516 : decode cL_law 1516 = .ok (.iconst 1, 1) := row_of dLc_1464 39 rfl rfl
theorem dL_law_1517 : decode cL_law 1517 = .ok (.iadd, 1) := row_of dLc_1464 40 rfl rfl
theorem dL_law_1518 : decode cL_law 1518 = .ok (.iaload, 1) := row_of dLc_1464 41 rfl rfl
theorem dL_law_1519 : decode cL_law 1519 = .ok (.aload_n 0, 1) := row_of dLc_1464 42 rfl rfl
theorem dL_law_1520 : decode cL_law 1520 = .ok (.iload 4, 2) := row_of dLc_1464 43 rfl rfl
theorem dL_law_1522 : decode cL_law 1522 = .ok (.iconst 2, 1) := row_of dLc_1464 44 rfl rfl
theorem dL_law_1523 : decode cL_law 1523 = .ok (.iadd, 1) := row_of dLc_1464 45 rfl rfl
theorem dL_law_1524 : decode cL_law 1524 = .ok (.iaload, 1) := row_of dLc_1464 46 rfl rfl
theorem dL_law_1525 : decode cL_law 1525 = .ok (.invokevirtual 147, 3) := row_of dLc_1464 47 rfl rfl
theorem dL_law_1528 : decode cL_law 1528 = .ok (.pop, 1) := row_of dLc_1464 48 rfl rfl
theorem dL_law_1529 : decode cL_law 1529 = .ok (.aload_n 2, 1) := row_of dLc_1464 49 rfl rfl
theorem dL_law_1530 : decode cL_law 1530 = .ok (.aload_n 0, 1) := row_of dLc_1464 50 rfl rfl
theorem dL_law_1531 : decode cL_law 1531 = .ok (.iload 4, 2) := row_of dLc_1464 51 rfl rfl
theorem dL_law_1533 : decode cL_law 1533 = .ok (.iconst 1, 1) := row_of dLc_1464 52 rfl rfl
theorem dL_law_1534 : decode cL_law 1534 = .ok (.iadd, 1) := row_of dLc_1464 53 rfl rfl
theorem dL_law_1535 : decode cL_law 1535 = .ok (.iaload, 1) := row_of dLc_1464 54 rfl rfl
theorem dL_law_1536 : decode cL_law 1536 = .ok (.aload_n 0, 1) := row_of dLc_1464 55 rfl rfl
theorem dL_law_1537 : decode cL_law 1537 = .ok (.iload 4, 2) := row_of dLc_1464 56 rfl rfl
theorem dL_law_1539 : decode cL_law 1539 = .ok (.iconst 2, 1) := row_of dLc_1464 57 rfl rfl
theorem dL_law_1540 : decode cL_law 1540 = .ok (.iadd, 1) := row_of dLc_1464 58 rfl rfl
theorem dL_law_1541 : decode cL_law 1541 = .ok (.iaload, 1) := row_of dLc_1464 59 rfl rfl
theorem dL_law_1542 : decode cL_law 1542 = .ok (.invokevirtual 150, 3) := row_of dLc_1464 60 rfl rfl
theorem dL_law_1545 : decode cL_law 1545 = .ok (.pop, 1) := row_of dLc_1464 61 rfl rfl
theorem dL_law_1546 : decode cL_law 1546 = .ok (.goto 318, 3) := row_of dLc_1464 62 rfl rfl
theorem dL_law_1549 : decode cL_law 1549 = .ok (.aload_n 1, 1) := row_of dLc_1464 63 rfl rfl
theorem dLc_1550 : List.map (decode cL_law) [1550, 1551, 1553, 1554, 1555, 1556, 1559, 1560, 1561, 1562, 1564, 1565, 1566, 1567, 1570, 1571, 1574, 1575, 1576, 1578, 1579, 1580, 1581, 1582, 1584, 1585, 1586, 1587, 1588, 1590, 1591, 1592, 1593, 1596, 1597, 1598, 1599, 1601, 1602, 1603, 1604, 1605, 1607, 1608, 1609, 1610, 1611, 1613, 1614, 1615, 1616, 1619, 1620, 1623, 1624, 1625, 1627, 1628, 1629, 1630, 1631, 1633, 1634, 1635] = [.ok (.aload_n 0, 1), .ok (.iload 4, 2), .ok (.iconst 1, 1), .ok (.iadd, 1), .ok (.iaload, 1), .ok (.invokevirtual 151, 3), .ok (.pop, 1), .ok (.aload_n 2, 1), .ok (.aload_n 0, 1), .ok (.iload 4, 2), .ok (.iconst 1, 1), .ok (.iadd, 1), .ok (.iaload, 1), .ok (.invokevirtual 154, 3), .ok (.pop, 1), .ok (.goto 293, 3), .ok (.aload_n 1, 1), .ok (.aload_n 0, 1), .ok (.iload 4, 2), .ok (.iconst 1, 1), .ok (.iadd, 1), .ok (.iaload, 1), .ok (.aload_n 0, 1), .ok (.iload 4, 2), .ok (.iconst 2, 1), .ok (.iadd, 1), .ok (.iaload, 1), .ok (.aload_n 0, 1), .ok (.iload 4, 2), .ok (.iconst 3, 1), .ok (.iadd, 1), .ok (.iaload, 1), .ok (.invokevirtual 155, 3), .ok (.pop2, 1), .ok (.aload_n 2, 1), .ok (.aload_n 0, 1), .ok (.iload 4, 2), .ok (.iconst 1, 1), .ok (.iadd, 1), .ok (.iaload, 1), .ok (.aload_n 0, 1), .ok (.iload 4, 2), .ok (.iconst 2, 1), .ok (.iadd, 1), .ok (.iaload, 1), .ok (.aload_n 0, 1), .ok (.iload 4, 2), .ok (.iconst 3, 1), .ok (.iadd, 1), .ok (.iaload, 1), .ok (.invokevirtual 159, 3), .ok (.pop2, 1), .ok (.goto 244, 3), .ok (.aload_n 1, 1), .ok (.aload_n 0, 1), .ok (.iload 4, 2), .ok (.iconst 1, 1), .ok (.iadd, 1), .ok (.iaload, 1), .ok (.aload_n 0, 1), .ok (.iload 4, 2), .ok (.iconst 2, 1), .ok (.iadd, 1), .ok (.iaload, 1)] := wk_map (t := [(1550, .aload_n 0, 1), (1551, .iload 4, 2), (1553, .iconst 1, 1), (1554, .iadd, 1), (1555, .iaload, 1), (1556, .invokevirtual 151, 3), (1559, .pop, 1), (1560, .aload_n 2, 1), (1561, .aload_n 0, 1), (1562, .iload 4, 2), (1564, .iconst 1, 1), (1565, .iadd, 1), (1566, .iaload, 1), (1567, .invokevirtual 154, 3), (1570, .pop, 1), (1571, .goto 293, 3), (1574, .aload_n 1, 1), (1575, .aload_n 0, 1), (1576, .iload 4, 2), (1578, .iconst 1, 1), (1579, .iadd, 1), (1580, .iaload, 1), (1581, .aload_n 0, 1), (1582, .iload 4, 2), (1584, .iconst 2, 1), (1585, .iadd, 1), (1586, .iaload, 1), (1587, .aload_n 0, 1), (1588, .iload 4, 2), (1590, .iconst 3, 1), (1591, .iadd, 1), (1592, .iaload, 1), (1593, .invokevirtual 155, 3), (1596, .pop2, 1), (1597, .aload_n 2, 1), (1598, .aload_n 0, 1), (1599, .iload 4, 2), (1601, .iconst 1, 1), (1602, .iadd, 1), (1603, .iaload, 1), (1604, .aload_n 0, 1), (1605, .iload 4, 2), (1607, .iconst 2, 1), (1608, .iadd, 1), (1609, .iaload, 1), (1610, .aload_n 0, 1), (1611, .iload 4, 2), (1613, .iconst 3, 1), (1614, .iadd, 1), (1615, .iaload, 1), (1616, .invokevirtual 159, 3), (1619, .pop2, 1), (1620, .goto 244, 3), (1623, .aload_n 1, 1), (1624, .aload_n 0, 1), (1625, .iload 4, 2), (1627, .iconst 1, 1), (1628, .iadd, 1), (1629, .iaload, 1), (1630, .aload_n 0, 1), (1631, .iload 4, 2), (1633, .iconst 2, 1), (1634, .iadd, 1), (1635, .iaload, 1)]) (by decide +kernel)
theorem dL_law_1550 : decode cL_law 1550 = .ok (.aload_n 0, 1) := row_of dLc_1550 0 rfl rfl
theorem dL_law_1551 : decode cL_law 1551 = .ok (.iload 4, 2) := row_of dLc_1550 1 rfl rfl
theorem dL_law_1553 : decode cL_law 1553 = .ok (.iconst 1, 1) := row_of dLc_1550 2 rfl rfl
theorem dL_law_1554 : decode cL_law 1554 = .ok (.iadd, 1) := row_of dLc_1550 3 rfl rfl
theorem dL_law_1555 : decode cL_law 1555 = .ok (.iaload, 1) := row_of dLc_1550 4 rfl rfl
theorem dL_law_1556 : decode cL_law 1556 = .ok (.invokevirtual 151, 3) := row_of dLc_1550 5 rfl rfl
theorem dL_law_1559 : decode cL_law 1559 = .ok (.pop, 1) := row_of dLc_1550 6 rfl rfl
theorem dL_law_1560 : decode cL_law 1560 = .ok (.aload_n 2, 1) := row_of dLc_1550 7 rfl rfl
theorem dL_law_1561 : decode cL_law 1561 = .ok (.aload_n 0, 1) := row_of dLc_1550 8 rfl rfl
theorem dL_law_1562 : decode cL_law 1562 = .ok (.iload 4, 2) := row_of dLc_1550 9 rfl rfl
theorem dL_law_1564 : decode cL_law 1564 = .ok (.iconst 1, 1) := row_of dLc_1550 10 rfl rfl
theorem dL_law_1565 : decode cL_law 1565 = .ok (.iadd, 1) := row_of dLc_1550 11 rfl rfl
theorem dL_law_1566 : decode cL_law 1566 = .ok (.iaload, 1) := row_of dLc_1550 12 rfl rfl
theorem dL_law_1567 : decode cL_law 1567 = .ok (.invokevirtual 154, 3) := row_of dLc_1550 13 rfl rfl
theorem dL_law_1570 : decode cL_law 1570 = .ok (.pop, 1) := row_of dLc_1550 14 rfl rfl
theorem dL_law_1571 : decode cL_law 1571 = .ok (.goto 293, 3) := row_of dLc_1550 15 rfl rfl
theorem dL_law_1574 : decode cL_law 1574 = .ok (.aload_n 1, 1) := row_of dLc_1550 16 rfl rfl
theorem dL_law_1575 : decode cL_law 1575 = .ok (.aload_n 0, 1) := row_of dLc_1550 17 rfl rfl
theorem dL_law_1576 : decode cL_law 1576 = .ok (.iload 4, 2) := row_of dLc_1550 18 rfl rfl
theorem dL_law_1578 : decode cL_law 1578 = .ok (.iconst 1, 1) := row_of dLc_1550 19 rfl rfl
theorem dL_law_1579 : decode cL_law 1579 = .ok (.iadd, 1) := row_of dLc_1550 20 rfl rfl
theorem dL_law_1580 : decode cL_law 1580 = .ok (.iaload, 1) := row_of dLc_1550 21 rfl rfl
theorem dL_law_1581 : decode cL_law 1581 = .ok (.aload_n 0, 1) := row_of dLc_1550 22 rfl rfl
theorem dL_law_1582 : decode cL_law 1582 = .ok (.iload 4, 2) := row_of dLc_1550 23 rfl rfl
theorem dL_law_1584 : decode cL_law 1584 = .ok (.iconst 2, 1) := row_of dLc_1550 24 rfl rfl
theorem dL_law_1585 : decode cL_law 1585 = .ok (.iadd, 1) := row_of dLc_1550 25 rfl rfl
theorem dL_law_1586 : decode cL_law 1586 = .ok (.iaload, 1) := row_of dLc_1550 26 rfl rfl
theorem dL_law_1587 : decode cL_law 1587 = .ok (.aload_n 0, 1) := row_of dLc_1550 27 rfl rfl
theorem dL_law_1588 : decode cL_law 1588 = .ok (.iload 4, 2) := row_of dLc_1550 28 rfl rfl
theorem dL_law_1590 : decode cL_law 1590 = .ok (.iconst 3, 1) := row_of dLc_1550 29 rfl rfl
theorem dL_law_1591 : decode cL_law 1591 = .ok (.iadd, 1) := row_of dLc_1550 30 rfl rfl
theorem dL_law_1592 : decode cL_law 1592 = .ok (.iaload, 1) := row_of dLc_1550 31 rfl rfl
theorem dL_law_1593 : decode cL_law 1593 = .ok (.invokevirtual 155, 3) := row_of dLc_1550 32 rfl rfl
theorem dL_law_1596 : decode cL_law 1596 = .ok (.pop2, 1) := row_of dLc_1550 33 rfl rfl
theorem dL_law_1597 : decode cL_law 1597 = .ok (.aload_n 2, 1) := row_of dLc_1550 34 rfl rfl
theorem dL_law_1598 : decode cL_law 1598 = .ok (.aload_n 0, 1) := row_of dLc_1550 35 rfl rfl
theorem dL_law_1599 : decode cL_law 1599 = .ok (.iload 4, 2) := row_of dLc_1550 36 rfl rfl
theorem dL_law_1601 : decode cL_law 1601 = .ok (.iconst 1, 1) := row_of dLc_1550 37 rfl rfl
theorem dL_law_1602 : decode cL_law 1602 = .ok (.iadd, 1) := row_of dLc_1550 38 rfl rfl
theorem dL_law_1603 : decode cL_law 1603 = .ok (.iaload, 1) := row_of dLc_1550 39 rfl rfl
theorem dL_law_1604 : decode cL_law 1604 = .ok (.aload_n 0, 1) := row_of dLc_1550 40 rfl rfl
theorem dL_law_1605 : decode cL_law 1605 = .ok (.iload 4, 2) := row_of dLc_1550 41 rfl rfl
theorem dL_law_1607 : decode cL_law 1607 = .ok (.iconst 2, 1) := row_of dLc_1550 42 rfl rfl
theorem dL_law_1608 : decode cL_law 1608 = .ok (.iadd, 1) := row_of dLc_1550 43 rfl rfl
theorem dL_law_1609 : decode cL_law 1609 = .ok (.iaload, 1) := row_of dLc_1550 44 rfl rfl
theorem dL_law_1610 : decode cL_law 1610 = .ok (.aload_n 0, 1) := row_of dLc_1550 45 rfl rfl
theorem dL_law_1611 : decode cL_law 1611 = .ok (.iload 4, 2) := row_of dLc_1550 46 rfl rfl
theorem dL_law_1613 : decode cL_law 1613 = .ok (.iconst 3, 1) := row_of dLc_1550 47 rfl rfl
theorem dL_law_1614 : decode cL_law 1614 = .ok (.iadd, 1) := row_of dLc_1550 48 rfl rfl
theorem dL_law_1615 : decode cL_law 1615 = .ok (.iaload, 1) := row_of dLc_1550 49 rfl rfl
theorem dL_law_1616 : decode cL_law 1616 = .ok (.invokevirtual 159, 3) := row_of dLc_1550 50 rfl rfl
theorem dL_law_1619 : decode cL_law 1619 = .ok (.pop2, 1) := row_of dLc_1550 51 rfl rfl
theorem dL_law_1620 : decode cL_law 1620 = .ok (.goto 244, 3) := row_of dLc_1550 52 rfl rfl
theorem dL_law_1623 : decode cL_law 1623 = .ok (.aload_n 1, 1) := row_of dLc_1550 53 rfl rfl
theorem dL_law_1624 : decode cL_law 1624 = .ok (.aload_n 0, 1) := row_of dLc_1550 54 rfl rfl
theorem dL_law_1625 : decode cL_law 1625 = .ok (.iload 4, 2) := row_of dLc_1550 55 rfl rfl
theorem dL_law_1627 : decode cL_law 1627 = .ok (.iconst 1, 1) := row_of dLc_1550 56 rfl rfl
theorem dL_law_1628 : decode cL_law 1628 = .ok (.iadd, 1) := row_of dLc_1550 57 rfl rfl
theorem dL_law_1629 : decode cL_law 1629 = .ok (.iaload, 1) := row_of dLc_1550 58 rfl rfl
theorem dL_law_1630 : decode cL_law 1630 = .ok (.aload_n 0, 1) := row_of dLc_1550 59 rfl rfl
theorem dL_law_1631 : decode cL_law 1631 = .ok (.iload 4, 2) := row_of dLc_1550 60 rfl rfl
theorem dL_law_1633 : decode cL_law 1633 = .ok (.iconst 2, 1) := row_of dLc_1550 61 rfl rfl
theorem dL_law_1634 : decode cL_law 1634 = .ok (.iadd, 1) := row_of dLc_1550 62 rfl rfl
theorem dL_law_1635 : decode cL_law 1635 = .ok (.iaload, 1) := row_of dLc_1550 63 rfl rfl
theorem dLc_1636 : List.map (decode cL_law) [1636, 1637, 1639, 1640, 1641, 1642, 1643, 1645, 1646, 1647, 1649, 1650, 1651, 1652, 1653, 1656, 1657, 1658, 1661, 1662, 1663, 1664, 1666, 1667, 1668, 1669, 1670, 1672, 1673, 1674, 1675, 1676, 1678, 1679, 1680, 1681, 1682, 1684, 1685, 1686, 1688, 1689, 1690, 1691, 1692, 1695, 1696, 1697, 1700, 1701, 1704, 1705, 1706, 1708, 1709, 1710, 1711, 1712, 1714, 1715, 1716, 1717, 1718, 1720] = [.ok (.aload_n 0, 1), .ok (.iload 4, 2), .ok (.iconst 3, 1), .ok (.iadd, 1), .ok (.iaload, 1), .ok (.i2l, 1), .ok (.bipush 32, 2), .ok (.lshl, 1), .ok (.aload_n 0, 1), .ok (.iload 4, 2), .ok (.iconst 4, 1), .ok (.iadd, 1), .ok (.iaload, 1), .ok (.i2l, 1), .ok (.ldc2_w 160, 3), .ok (.land, 1), .ok (.lor, 1), .ok (.invokevirtual 162, 3), .ok (.pop, 1), .ok (.aload_n 2, 1), .ok (.aload_n 0, 1), .ok (.iload 4, 2), .ok (.iconst 1, 1), .ok (.iadd, 1), .ok (.iaload, 1), .ok (.aload_n 0, 1), .ok (.iload 4, 2), .ok (.iconst 2, 1), .ok (.iadd, 1), .ok (.iaload, 1), .ok (.aload_n 0, 1), .ok (.iload 4, 2), .ok (.iconst 3, 1), .ok (.iadd, 1), .ok (.iaload, 1), .ok (.i2l, 1), .ok (.bipush 32, 2), .ok (.lshl, 1), .ok (.aload_n 0, 1), .ok (.iload 4, 2), .ok (.iconst 4, 1), .ok (.iadd, 1), .ok (.iaload, 1), .ok (.i2l, 1), .ok (.ldc2_w 160, 3), .ok (.land, 1), .ok (.lor, 1), .ok (.invokevirtual 166, 3), .ok (.pop, 1), .ok (.goto 163, 3), .ok (.aload_n 1, 1), .ok (.aload_n 0, 1), .ok (.iload 4, 2), .ok (.iconst 1, 1), .ok (.iadd, 1), .ok (.iaload, 1), .ok (.aload_n 0, 1), .ok (.iload 4, 2), .ok (.iconst 2, 1), .ok (.iadd, 1), .ok (.iaload, 1), .ok (.aload_n 0, 1), .ok (.iload 4, 2), .ok (.iconst 3, 1)] := wk_map (t := [(1636, .aload_n 0, 1), (1637, .iload 4, 2), (1639, .iconst 3, 1), (1640, .iadd, 1), (1641, .iaload, 1), (1642, .i2l, 1), (1643, .bipush 32, 2), (1645, .lshl, 1), (1646, .aload_n 0, 1), (1647, .iload 4, 2), (1649, .iconst 4, 1), (1650, .iadd, 1), (1651, .iaload, 1), (1652, .i2l, 1), (1653, .ldc2_w 160, 3), (1656, .land, 1), (1657, .lor, 1), (1658, .invokevirtual 162, 3), (1661, .pop, 1), (1662, .aload_n 2, 1), (1663, .aload_n 0, 1), (1664, .iload 4, 2), (1666, .iconst 1, 1), (1667, .iadd, 1), (1668, .iaload, 1), (1669, .aload_n 0, 1), (1670, .iload 4, 2), (1672, .iconst 2, 1), (1673, .iadd, 1), (1674, .iaload, 1), (1675, .aload_n 0, 1), (1676, .iload 4, 2), (1678, .iconst 3, 1), (1679, .iadd, 1), (1680, .iaload, 1), (1681, .i2l, 1), (1682, .bipush 32, 2), (1684, .lshl, 1), (1685, .aload_n 0, 1), (1686, .iload 4, 2), (1688, .iconst 4, 1), (1689, .iadd, 1), (1690, .iaload, 1), (1691, .i2l, 1), (1692, .ldc2_w 160, 3), (1695, .land, 1), (1696, .lor, 1), (1697, .invokevirtual 166, 3), (1700, .pop, 1), (1701, .goto 163, 3), (1704, .aload_n 1, 1), (1705, .aload_n 0, 1), (1706, .iload 4, 2), (1708, .iconst 1, 1), (1709, .iadd, 1), (1710, .iaload, 1), (1711, .aload_n 0, 1), (1712, .iload 4, 2), (1714, .iconst 2, 1), (1715, .iadd, 1), (1716, .iaload, 1), (1717, .aload_n 0, 1), (1718, .iload 4, 2), (1720, .iconst 3, 1)]) (by decide +kernel)
theorem dL_law_1636 : decode cL_law 1636 = .ok (.aload_n 0, 1) := row_of dLc_1636 0 rfl rfl
theorem dL_law_1637 : decode cL_law 1637 = .ok (.iload 4, 2) := row_of dLc_1636 1 rfl rfl
theorem dL_law_1639 : decode cL_law 1639 = .ok (.iconst 3, 1) := row_of dLc_1636 2 rfl rfl
theorem dL_law_1640 : decode cL_law 1640 = .ok (.iadd, 1) := row_of dLc_1636 3 rfl rfl
theorem dL_law_1641 : decode cL_law 1641 = .ok (.iaload, 1) := row_of dLc_1636 4 rfl rfl
theorem dL_law_1642 : decode cL_law 1642 = .ok (.i2l, 1) := row_of dLc_1636 5 rfl rfl
theorem dL_law_1643 : decode cL_law 1643 = .ok (.bipush 32, 2) := row_of dLc_1636 6 rfl rfl
theorem dL_law_1645 : decode cL_law 1645 = .ok (.lshl, 1) := row_of dLc_1636 7 rfl rfl
theorem dL_law_1646 : decode cL_law 1646 = .ok (.aload_n 0, 1) := row_of dLc_1636 8 rfl rfl
theorem dL_law_1647 : decode cL_law 1647 = .ok (.iload 4, 2) := row_of dLc_1636 9 rfl rfl
theorem dL_law_1649 : decode cL_law 1649 = .ok (.iconst 4, 1) := row_of dLc_1636 10 rfl rfl
theorem dL_law_1650 : decode cL_law 1650 = .ok (.iadd, 1) := row_of dLc_1636 11 rfl rfl
theorem dL_law_1651 : decode cL_law 1651 = .ok (.iaload, 1) := row_of dLc_1636 12 rfl rfl
theorem dL_law_1652 : decode cL_law 1652 = .ok (.i2l, 1) := row_of dLc_1636 13 rfl rfl
theorem dL_law_1653 : decode cL_law 1653 = .ok (.ldc2_w 160, 3) := row_of dLc_1636 14 rfl rfl
theorem dL_law_1656 : decode cL_law 1656 = .ok (.land, 1) := row_of dLc_1636 15 rfl rfl
theorem dL_law_1657 : decode cL_law 1657 = .ok (.lor, 1) := row_of dLc_1636 16 rfl rfl
theorem dL_law_1658 : decode cL_law 1658 = .ok (.invokevirtual 162, 3) := row_of dLc_1636 17 rfl rfl
theorem dL_law_1661 : decode cL_law 1661 = .ok (.pop, 1) := row_of dLc_1636 18 rfl rfl
theorem dL_law_1662 : decode cL_law 1662 = .ok (.aload_n 2, 1) := row_of dLc_1636 19 rfl rfl
theorem dL_law_1663 : decode cL_law 1663 = .ok (.aload_n 0, 1) := row_of dLc_1636 20 rfl rfl
theorem dL_law_1664 : decode cL_law 1664 = .ok (.iload 4, 2) := row_of dLc_1636 21 rfl rfl
theorem dL_law_1666 : decode cL_law 1666 = .ok (.iconst 1, 1) := row_of dLc_1636 22 rfl rfl
theorem dL_law_1667 : decode cL_law 1667 = .ok (.iadd, 1) := row_of dLc_1636 23 rfl rfl
theorem dL_law_1668 : decode cL_law 1668 = .ok (.iaload, 1) := row_of dLc_1636 24 rfl rfl
theorem dL_law_1669 : decode cL_law 1669 = .ok (.aload_n 0, 1) := row_of dLc_1636 25 rfl rfl
theorem dL_law_1670 : decode cL_law 1670 = .ok (.iload 4, 2) := row_of dLc_1636 26 rfl rfl
theorem dL_law_1672 : decode cL_law 1672 = .ok (.iconst 2, 1) := row_of dLc_1636 27 rfl rfl
theorem dL_law_1673 : decode cL_law 1673 = .ok (.iadd, 1) := row_of dLc_1636 28 rfl rfl
theorem dL_law_1674 : decode cL_law 1674 = .ok (.iaload, 1) := row_of dLc_1636 29 rfl rfl
theorem dL_law_1675 : decode cL_law 1675 = .ok (.aload_n 0, 1) := row_of dLc_1636 30 rfl rfl
theorem dL_law_1676 : decode cL_law 1676 = .ok (.iload 4, 2) := row_of dLc_1636 31 rfl rfl
theorem dL_law_1678 : decode cL_law 1678 = .ok (.iconst 3, 1) := row_of dLc_1636 32 rfl rfl
theorem dL_law_1679 : decode cL_law 1679 = .ok (.iadd, 1) := row_of dLc_1636 33 rfl rfl
theorem dL_law_1680 : decode cL_law 1680 = .ok (.iaload, 1) := row_of dLc_1636 34 rfl rfl
theorem dL_law_1681 : decode cL_law 1681 = .ok (.i2l, 1) := row_of dLc_1636 35 rfl rfl
theorem dL_law_1682 : decode cL_law 1682 = .ok (.bipush 32, 2) := row_of dLc_1636 36 rfl rfl
theorem dL_law_1684 : decode cL_law 1684 = .ok (.lshl, 1) := row_of dLc_1636 37 rfl rfl
theorem dL_law_1685 : decode cL_law 1685 = .ok (.aload_n 0, 1) := row_of dLc_1636 38 rfl rfl
theorem dL_law_1686 : decode cL_law 1686 = .ok (.iload 4, 2) := row_of dLc_1636 39 rfl rfl
theorem dL_law_1688 : decode cL_law 1688 = .ok (.iconst 4, 1) := row_of dLc_1636 40 rfl rfl
theorem dL_law_1689 : decode cL_law 1689 = .ok (.iadd, 1) := row_of dLc_1636 41 rfl rfl
theorem dL_law_1690 : decode cL_law 1690 = .ok (.iaload, 1) := row_of dLc_1636 42 rfl rfl
theorem dL_law_1691 : decode cL_law 1691 = .ok (.i2l, 1) := row_of dLc_1636 43 rfl rfl
theorem dL_law_1692 : decode cL_law 1692 = .ok (.ldc2_w 160, 3) := row_of dLc_1636 44 rfl rfl
theorem dL_law_1695 : decode cL_law 1695 = .ok (.land, 1) := row_of dLc_1636 45 rfl rfl
theorem dL_law_1696 : decode cL_law 1696 = .ok (.lor, 1) := row_of dLc_1636 46 rfl rfl
theorem dL_law_1697 : decode cL_law 1697 = .ok (.invokevirtual 166, 3) := row_of dLc_1636 47 rfl rfl
theorem dL_law_1700 : decode cL_law 1700 = .ok (.pop, 1) := row_of dLc_1636 48 rfl rfl
theorem dL_law_1701 : decode cL_law 1701 = .ok (.goto 163, 3) := row_of dLc_1636 49 rfl rfl
theorem dL_law_1704 : decode cL_law 1704 = .ok (.aload_n 1, 1) := row_of dLc_1636 50 rfl rfl
theorem dL_law_1705 : decode cL_law 1705 = .ok (.aload_n 0, 1) := row_of dLc_1636 51 rfl rfl
theorem dL_law_1706 : decode cL_law 1706 = .ok (.iload 4, 2) := row_of dLc_1636 52 rfl rfl
theorem dL_law_1708 : decode cL_law 1708 = .ok (.iconst 1, 1) := row_of dLc_1636 53 rfl rfl
theorem dL_law_1709 : decode cL_law 1709 = .ok (.iadd, 1) := row_of dLc_1636 54 rfl rfl
theorem dL_law_1710 : decode cL_law 1710 = .ok (.iaload, 1) := row_of dLc_1636 55 rfl rfl
theorem dL_law_1711 : decode cL_law 1711 = .ok (.aload_n 0, 1) := row_of dLc_1636 56 rfl rfl
theorem dL_law_1712 : decode cL_law 1712 = .ok (.iload 4, 2) := row_of dLc_1636 57 rfl rfl
theorem dL_law_1714 : decode cL_law 1714 = .ok (.iconst 2, 1) := row_of dLc_1636 58 rfl rfl
theorem dL_law_1715 : decode cL_law 1715 = .ok (.iadd, 1) := row_of dLc_1636 59 rfl rfl
theorem dL_law_1716 : decode cL_law 1716 = .ok (.iaload, 1) := row_of dLc_1636 60 rfl rfl
theorem dL_law_1717 : decode cL_law 1717 = .ok (.aload_n 0, 1) := row_of dLc_1636 61 rfl rfl
theorem dL_law_1718 : decode cL_law 1718 = .ok (.iload 4, 2) := row_of dLc_1636 62 rfl rfl
theorem dL_law_1720 : decode cL_law 1720 = .ok (.iconst 3, 1) := row_of dLc_1636 63 rfl rfl
theorem dLc_1721 : List.map (decode cL_law) [1721, 1722, 1723, 1724, 1726, 1727, 1728, 1729, 1732, 1733, 1734, 1735, 1737, 1738, 1739, 1740, 1741, 1743, 1744, 1745, 1746, 1747, 1749, 1750, 1751, 1752, 1753, 1755, 1756, 1757, 1758, 1761, 1762, 1765, 1766, 1767, 1769, 1770, 1771, 1772, 1773, 1775, 1776, 1777, 1778, 1781, 1782, 1783, 1784, 1786, 1787, 1788, 1789, 1790, 1792, 1793, 1794, 1795, 1798, 1799, 1802, 1803, 1804, 1806] = [.ok (.iadd, 1), .ok (.iaload, 1), .ok (.aload_n 0, 1), .ok (.iload 4, 2), .ok (.iconst 4, 1), .ok (.iadd, 1), .ok (.iaload, 1), .ok (.invokevirtual 167, 3), .ok (.pop, 1), .ok (.aload_n 2, 1), .ok (.aload_n 0, 1), .ok (.iload 4, 2), .ok (.iconst 1, 1), .ok (.iadd, 1), .ok (.iaload, 1), .ok (.aload_n 0, 1), .ok (.iload 4, 2), .ok (.iconst 2, 1), .ok (.iadd, 1), .ok (.iaload, 1), .ok (.aload_n 0, 1), .ok (.iload 4, 2), .ok (.iconst 3, 1), .ok (.iadd, 1), .ok (.iaload, 1), .ok (.aload_n 0, 1), .ok (.iload 4, 2), .ok (.iconst 4, 1), .ok (.iadd, 1), .ok (.iaload, 1), .ok (.invokevirtual 171, 3), .ok (.pop, 1), .ok (.goto 102, 3), .ok (.aload_n 1, 1), .ok (.aload_n 0, 1), .ok (.iload 4, 2), .ok (.iconst 1, 1), .ok (.iadd, 1), .ok (.iaload, 1), .ok (.aload_n 0, 1), .ok (.iload 4, 2), .ok (.iconst 2, 1), .ok (.iadd, 1), .ok (.iaload, 1), .ok (.invokevirtual 172, 3), .ok (.pop, 1), .ok (.aload_n 2, 1), .ok (.aload_n 0, 1), .ok (.iload 4, 2), .ok (.iconst 1, 1), .ok (.iadd, 1), .ok (.iaload, 1), .ok (.aload_n 0, 1), .ok (.iload 4, 2), .ok (.iconst 2, 1), .ok (.iadd, 1), .ok (.iaload, 1), .ok (.invokevirtual 175, 3), .ok (.pop, 1), .ok (.goto 65, 3), .ok (.aload_n 1, 1), .ok (.aload_n 0, 1), .ok (.iload 4, 2), .ok (.iconst 1, 1)] := wk_map (t := [(1721, .iadd, 1), (1722, .iaload, 1), (1723, .aload_n 0, 1), (1724, .iload 4, 2), (1726, .iconst 4, 1), (1727, .iadd, 1), (1728, .iaload, 1), (1729, .invokevirtual 167, 3), (1732, .pop, 1), (1733, .aload_n 2, 1), (1734, .aload_n 0, 1), (1735, .iload 4, 2), (1737, .iconst 1, 1), (1738, .iadd, 1), (1739, .iaload, 1), (1740, .aload_n 0, 1), (1741, .iload 4, 2), (1743, .iconst 2, 1), (1744, .iadd, 1), (1745, .iaload, 1), (1746, .aload_n 0, 1), (1747, .iload 4, 2), (1749, .iconst 3, 1), (1750, .iadd, 1), (1751, .iaload, 1), (1752, .aload_n 0, 1), (1753, .iload 4, 2), (1755, .iconst 4, 1), (1756, .iadd, 1), (1757, .iaload, 1), (1758, .invokevirtual 171, 3), (1761, .pop, 1), (1762, .goto 102, 3), (1765, .aload_n 1, 1), (1766, .aload_n 0, 1), (1767, .iload 4, 2), (1769, .iconst 1, 1), (1770, .iadd, 1), (1771, .iaload, 1), (1772, .aload_n 0, 1), (1773, .iload 4, 2), (1775, .iconst 2, 1), (1776, .iadd, 1), (1777, .iaload, 1), (1778, .invokevirtual 172, 3), (1781, .pop, 1), (1782, .aload_n 2, 1), (1783, .aload_n 0, 1), (1784, .iload 4, 2), (1786, .iconst 1, 1), (1787, .iadd, 1), (1788, .iaload, 1), (1789, .aload_n 0, 1), (1790, .iload 4, 2), (1792, .iconst 2, 1), (1793, .iadd, 1), (1794, .iaload, 1), (1795, .invokevirtual 175, 3), (1798, .pop, 1), (1799, .goto 65, 3), (1802, .aload_n 1, 1), (1803, .aload_n 0, 1), (1804, .iload 4, 2), (1806, .iconst 1, 1)]) (by decide +kernel)
theorem dL_law_1721 : decode cL_law 1721 = .ok (.iadd, 1) := row_of dLc_1721 0 rfl rfl
theorem dL_law_1722 : decode cL_law 1722 = .ok (.iaload, 1) := row_of dLc_1721 1 rfl rfl
theorem dL_law_1723 : decode cL_law 1723 = .ok (.aload_n 0, 1) := row_of dLc_1721 2 rfl rfl
theorem dL_law_1724 : decode cL_law 1724 = .ok (.iload 4, 2) := row_of dLc_1721 3 rfl rfl
theorem dL_law_1726 : decode cL_law 1726 = .ok (.iconst 4, 1) := row_of dLc_1721 4 rfl rfl
theorem dL_law_1727 : decode cL_law 1727 = .ok (.iadd, 1) := row_of dLc_1721 5 rfl rfl
theorem dL_law_1728 : decode cL_law 1728 = .ok (.iaload, 1) := row_of dLc_1721 6 rfl rfl
theorem dL_law_1729 : decode cL_law 1729 = .ok (.invokevirtual 167, 3) := row_of dLc_1721 7 rfl rfl
theorem dL_law_1732 : decode cL_law 1732 = .ok (.pop, 1) := row_of dLc_1721 8 rfl rfl
theorem dL_law_1733 : decode cL_law 1733 = .ok (.aload_n 2, 1) := row_of dLc_1721 9 rfl rfl
theorem dL_law_1734 : decode cL_law 1734 = .ok (.aload_n 0, 1) := row_of dLc_1721 10 rfl rfl
theorem dL_law_1735 : decode cL_law 1735 = .ok (.iload 4, 2) := row_of dLc_1721 11 rfl rfl
theorem dL_law_1737 : decode cL_law 1737 = .ok (.iconst 1, 1) := row_of dLc_1721 12 rfl rfl
theorem dL_law_1738 : decode cL_law 1738 = .ok (.iadd, 1) := row_of dLc_1721 13 rfl rfl
theorem dL_law_1739 : decode cL_law 1739 = .ok (.iaload, 1) := row_of dLc_1721 14 rfl rfl
theorem dL_law_1740 : decode cL_law 1740 = .ok (.aload_n 0, 1) := row_of dLc_1721 15 rfl rfl
theorem dL_law_1741 : decode cL_law 1741 = .ok (.iload 4, 2) := row_of dLc_1721 16 rfl rfl
theorem dL_law_1743 : decode cL_law 1743 = .ok (.iconst 2, 1) := row_of dLc_1721 17 rfl rfl
theorem dL_law_1744 : decode cL_law 1744 = .ok (.iadd, 1) := row_of dLc_1721 18 rfl rfl
theorem dL_law_1745 : decode cL_law 1745 = .ok (.iaload, 1) := row_of dLc_1721 19 rfl rfl
theorem dL_law_1746 : decode cL_law 1746 = .ok (.aload_n 0, 1) := row_of dLc_1721 20 rfl rfl
theorem dL_law_1747 : decode cL_law 1747 = .ok (.iload 4, 2) := row_of dLc_1721 21 rfl rfl
theorem dL_law_1749 : decode cL_law 1749 = .ok (.iconst 3, 1) := row_of dLc_1721 22 rfl rfl
theorem dL_law_1750 : decode cL_law 1750 = .ok (.iadd, 1) := row_of dLc_1721 23 rfl rfl
theorem dL_law_1751 : decode cL_law 1751 = .ok (.iaload, 1) := row_of dLc_1721 24 rfl rfl
theorem dL_law_1752 : decode cL_law 1752 = .ok (.aload_n 0, 1) := row_of dLc_1721 25 rfl rfl
theorem dL_law_1753 : decode cL_law 1753 = .ok (.iload 4, 2) := row_of dLc_1721 26 rfl rfl
theorem dL_law_1755 : decode cL_law 1755 = .ok (.iconst 4, 1) := row_of dLc_1721 27 rfl rfl
theorem dL_law_1756 : decode cL_law 1756 = .ok (.iadd, 1) := row_of dLc_1721 28 rfl rfl
theorem dL_law_1757 : decode cL_law 1757 = .ok (.iaload, 1) := row_of dLc_1721 29 rfl rfl
theorem dL_law_1758 : decode cL_law 1758 = .ok (.invokevirtual 171, 3) := row_of dLc_1721 30 rfl rfl
theorem dL_law_1761 : decode cL_law 1761 = .ok (.pop, 1) := row_of dLc_1721 31 rfl rfl
theorem dL_law_1762 : decode cL_law 1762 = .ok (.goto 102, 3) := row_of dLc_1721 32 rfl rfl
theorem dL_law_1765 : decode cL_law 1765 = .ok (.aload_n 1, 1) := row_of dLc_1721 33 rfl rfl
theorem dL_law_1766 : decode cL_law 1766 = .ok (.aload_n 0, 1) := row_of dLc_1721 34 rfl rfl
theorem dL_law_1767 : decode cL_law 1767 = .ok (.iload 4, 2) := row_of dLc_1721 35 rfl rfl
theorem dL_law_1769 : decode cL_law 1769 = .ok (.iconst 1, 1) := row_of dLc_1721 36 rfl rfl
theorem dL_law_1770 : decode cL_law 1770 = .ok (.iadd, 1) := row_of dLc_1721 37 rfl rfl
theorem dL_law_1771 : decode cL_law 1771 = .ok (.iaload, 1) := row_of dLc_1721 38 rfl rfl
theorem dL_law_1772 : decode cL_law 1772 = .ok (.aload_n 0, 1) := row_of dLc_1721 39 rfl rfl
theorem dL_law_1773 : decode cL_law 1773 = .ok (.iload 4, 2) := row_of dLc_1721 40 rfl rfl
theorem dL_law_1775 : decode cL_law 1775 = .ok (.iconst 2, 1) := row_of dLc_1721 41 rfl rfl
theorem dL_law_1776 : decode cL_law 1776 = .ok (.iadd, 1) := row_of dLc_1721 42 rfl rfl
theorem dL_law_1777 : decode cL_law 1777 = .ok (.iaload, 1) := row_of dLc_1721 43 rfl rfl
theorem dL_law_1778 : decode cL_law 1778 = .ok (.invokevirtual 172, 3) := row_of dLc_1721 44 rfl rfl
theorem dL_law_1781 : decode cL_law 1781 = .ok (.pop, 1) := row_of dLc_1721 45 rfl rfl
theorem dL_law_1782 : decode cL_law 1782 = .ok (.aload_n 2, 1) := row_of dLc_1721 46 rfl rfl
theorem dL_law_1783 : decode cL_law 1783 = .ok (.aload_n 0, 1) := row_of dLc_1721 47 rfl rfl
theorem dL_law_1784 : decode cL_law 1784 = .ok (.iload 4, 2) := row_of dLc_1721 48 rfl rfl
theorem dL_law_1786 : decode cL_law 1786 = .ok (.iconst 1, 1) := row_of dLc_1721 49 rfl rfl
theorem dL_law_1787 : decode cL_law 1787 = .ok (.iadd, 1) := row_of dLc_1721 50 rfl rfl
theorem dL_law_1788 : decode cL_law 1788 = .ok (.iaload, 1) := row_of dLc_1721 51 rfl rfl
theorem dL_law_1789 : decode cL_law 1789 = .ok (.aload_n 0, 1) := row_of dLc_1721 52 rfl rfl
theorem dL_law_1790 : decode cL_law 1790 = .ok (.iload 4, 2) := row_of dLc_1721 53 rfl rfl
theorem dL_law_1792 : decode cL_law 1792 = .ok (.iconst 2, 1) := row_of dLc_1721 54 rfl rfl
theorem dL_law_1793 : decode cL_law 1793 = .ok (.iadd, 1) := row_of dLc_1721 55 rfl rfl
theorem dL_law_1794 : decode cL_law 1794 = .ok (.iaload, 1) := row_of dLc_1721 56 rfl rfl
theorem dL_law_1795 : decode cL_law 1795 = .ok (.invokevirtual 175, 3) := row_of dLc_1721 57 rfl rfl
theorem dL_law_1798 : decode cL_law 1798 = .ok (.pop, 1) := row_of dLc_1721 58 rfl rfl
theorem dL_law_1799 : decode cL_law 1799 = .ok (.goto 65, 3) := row_of dLc_1721 59 rfl rfl
theorem dL_law_1802 : decode cL_law 1802 = .ok (.aload_n 1, 1) := row_of dLc_1721 60 rfl rfl
theorem dL_law_1803 : decode cL_law 1803 = .ok (.aload_n 0, 1) := row_of dLc_1721 61 rfl rfl
theorem dL_law_1804 : decode cL_law 1804 = .ok (.iload 4, 2) := row_of dLc_1721 62 rfl rfl
theorem dL_law_1806 : decode cL_law 1806 = .ok (.iconst 1, 1) := row_of dLc_1721 63 rfl rfl
theorem dLc_1807 : List.map (decode cL_law) [1807, 1808, 1809, 1810, 1812, 1813, 1814, 1815, 1818, 1819, 1820, 1821, 1823, 1824, 1825, 1826, 1827, 1829, 1830, 1831, 1832, 1835, 1836, 1839, 1840, 1841, 1843, 1844, 1845, 1846, 1849, 1850, 1851, 1852, 1854, 1855, 1856, 1857, 1860, 1861, 1864, 1867, 1870, 1871] = [.ok (.iadd, 1), .ok (.iaload, 1), .ok (.aload_n 0, 1), .ok (.iload 4, 2), .ok (.iconst 2, 1), .ok (.iadd, 1), .ok (.iaload, 1), .ok (.invokevirtual 176, 3), .ok (.pop, 1), .ok (.aload_n 2, 1), .ok (.aload_n 0, 1), .ok (.iload 4, 2), .ok (.iconst 1, 1), .ok (.iadd, 1), .ok (.iaload, 1), .ok (.aload_n 0, 1), .ok (.iload 4, 2), .ok (.iconst 2, 1), .ok (.iadd, 1), .ok (.iaload, 1), .ok (.invokevirtual 179, 3), .ok (.pop, 1), .ok (.goto 28, 3), .ok (.aload_n 1, 1), .ok (.aload_n 0, 1), .ok (.iload 4, 2), .ok (.iconst 1, 1), .ok (.iadd, 1), .ok (.iaload, 1), .ok (.invokevirtual 180, 3), .ok (.pop, 1), .ok (.aload_n 2, 1), .ok (.aload_n 0, 1), .ok (.iload 4, 2), .ok (.iconst 1, 1), .ok (.iadd, 1), .ok (.iaload, 1), .ok (.invokevirtual 183, 3), .ok (.pop, 1), .ok (.goto 3, 3), .ok (.iinc 4 6, 3), .ok (.goto (-1844), 3), .ok (.iconst 1, 1), .ok (.ireturn, 1)] := wk_map (t := [(1807, .iadd, 1), (1808, .iaload, 1), (1809, .aload_n 0, 1), (1810, .iload 4, 2), (1812, .iconst 2, 1), (1813, .iadd, 1), (1814, .iaload, 1), (1815, .invokevirtual 176, 3), (1818, .pop, 1), (1819, .aload_n 2, 1), (1820, .aload_n 0, 1), (1821, .iload 4, 2), (1823, .iconst 1, 1), (1824, .iadd, 1), (1825, .iaload, 1), (1826, .aload_n 0, 1), (1827, .iload 4, 2), (1829, .iconst 2, 1), (1830, .iadd, 1), (1831, .iaload, 1), (1832, .invokevirtual 179, 3), (1835, .pop, 1), (1836, .goto 28, 3), (1839, .aload_n 1, 1), (1840, .aload_n 0, 1), (1841, .iload 4, 2), (1843, .iconst 1, 1), (1844, .iadd, 1), (1845, .iaload, 1), (1846, .invokevirtual 180, 3), (1849, .pop, 1), (1850, .aload_n 2, 1), (1851, .aload_n 0, 1), (1852, .iload 4, 2), (1854, .iconst 1, 1), (1855, .iadd, 1), (1856, .iaload, 1), (1857, .invokevirtual 183, 3), (1860, .pop, 1), (1861, .goto 3, 3), (1864, .iinc 4 6, 3), (1867, .goto (-1844), 3), (1870, .iconst 1, 1), (1871, .ireturn, 1)]) (by decide +kernel)
theorem dL_law_1807 : decode cL_law 1807 = .ok (.iadd, 1) := row_of dLc_1807 0 rfl rfl
theorem dL_law_1808 : decode cL_law 1808 = .ok (.iaload, 1) := row_of dLc_1807 1 rfl rfl
theorem dL_law_1809 : decode cL_law 1809 = .ok (.aload_n 0, 1) := row_of dLc_1807 2 rfl rfl
theorem dL_law_1810 : decode cL_law 1810 = .ok (.iload 4, 2) := row_of dLc_1807 3 rfl rfl
theorem dL_law_1812 : decode cL_law 1812 = .ok (.iconst 2, 1) := row_of dLc_1807 4 rfl rfl
theorem dL_law_1813 : decode cL_law 1813 = .ok (.iadd, 1) := row_of dLc_1807 5 rfl rfl
theorem dL_law_1814 : decode cL_law 1814 = .ok (.iaload, 1) := row_of dLc_1807 6 rfl rfl
theorem dL_law_1815 : decode cL_law 1815 = .ok (.invokevirtual 176, 3) := row_of dLc_1807 7 rfl rfl
theorem dL_law_1818 : decode cL_law 1818 = .ok (.pop, 1) := row_of dLc_1807 8 rfl rfl
theorem dL_law_1819 : decode cL_law 1819 = .ok (.aload_n 2, 1) := row_of dLc_1807 9 rfl rfl
theorem dL_law_1820 : decode cL_law 1820 = .ok (.aload_n 0, 1) := row_of dLc_1807 10 rfl rfl
theorem dL_law_1821 : decode cL_law 1821 = .ok (.iload 4, 2) := row_of dLc_1807 11 rfl rfl
theorem dL_law_1823 : decode cL_law 1823 = .ok (.iconst 1, 1) := row_of dLc_1807 12 rfl rfl
theorem dL_law_1824 : decode cL_law 1824 = .ok (.iadd, 1) := row_of dLc_1807 13 rfl rfl
theorem dL_law_1825 : decode cL_law 1825 = .ok (.iaload, 1) := row_of dLc_1807 14 rfl rfl
theorem dL_law_1826 : decode cL_law 1826 = .ok (.aload_n 0, 1) := row_of dLc_1807 15 rfl rfl
theorem dL_law_1827 : decode cL_law 1827 = .ok (.iload 4, 2) := row_of dLc_1807 16 rfl rfl
theorem dL_law_1829 : decode cL_law 1829 = .ok (.iconst 2, 1) := row_of dLc_1807 17 rfl rfl
theorem dL_law_1830 : decode cL_law 1830 = .ok (.iadd, 1) := row_of dLc_1807 18 rfl rfl
theorem dL_law_1831 : decode cL_law 1831 = .ok (.iaload, 1) := row_of dLc_1807 19 rfl rfl
theorem dL_law_1832 : decode cL_law 1832 = .ok (.invokevirtual 179, 3) := row_of dLc_1807 20 rfl rfl
theorem dL_law_1835 : decode cL_law 1835 = .ok (.pop, 1) := row_of dLc_1807 21 rfl rfl
theorem dL_law_1836 : decode cL_law 1836 = .ok (.goto 28, 3) := row_of dLc_1807 22 rfl rfl
theorem dL_law_1839 : decode cL_law 1839 = .ok (.aload_n 1, 1) := row_of dLc_1807 23 rfl rfl
theorem dL_law_1840 : decode cL_law 1840 = .ok (.aload_n 0, 1) := row_of dLc_1807 24 rfl rfl
theorem dL_law_1841 : decode cL_law 1841 = .ok (.iload 4, 2) := row_of dLc_1807 25 rfl rfl
theorem dL_law_1843 : decode cL_law 1843 = .ok (.iconst 1, 1) := row_of dLc_1807 26 rfl rfl
theorem dL_law_1844 : decode cL_law 1844 = .ok (.iadd, 1) := row_of dLc_1807 27 rfl rfl
theorem dL_law_1845 : decode cL_law 1845 = .ok (.iaload, 1) := row_of dLc_1807 28 rfl rfl
theorem dL_law_1846 : decode cL_law 1846 = .ok (.invokevirtual 180, 3) := row_of dLc_1807 29 rfl rfl
theorem dL_law_1849 : decode cL_law 1849 = .ok (.pop, 1) := row_of dLc_1807 30 rfl rfl
theorem dL_law_1850 : decode cL_law 1850 = .ok (.aload_n 2, 1) := row_of dLc_1807 31 rfl rfl
theorem dL_law_1851 : decode cL_law 1851 = .ok (.aload_n 0, 1) := row_of dLc_1807 32 rfl rfl
theorem dL_law_1852 : decode cL_law 1852 = .ok (.iload 4, 2) := row_of dLc_1807 33 rfl rfl
theorem dL_law_1854 : decode cL_law 1854 = .ok (.iconst 1, 1) := row_of dLc_1807 34 rfl rfl
theorem dL_law_1855 : decode cL_law 1855 = .ok (.iadd, 1) := row_of dLc_1807 35 rfl rfl
theorem dL_law_1856 : decode cL_law 1856 = .ok (.iaload, 1) := row_of dLc_1807 36 rfl rfl
theorem dL_law_1857 : decode cL_law 1857 = .ok (.invokevirtual 183, 3) := row_of dLc_1807 37 rfl rfl
theorem dL_law_1860 : decode cL_law 1860 = .ok (.pop, 1) := row_of dLc_1807 38 rfl rfl
theorem dL_law_1861 : decode cL_law 1861 = .ok (.goto 3, 3) := row_of dLc_1807 39 rfl rfl
theorem dL_law_1864 : decode cL_law 1864 = .ok (.iinc 4 6, 3) := row_of dLc_1807 40 rfl rfl
theorem dL_law_1867 : decode cL_law 1867 = .ok (.goto (-1844), 3) := row_of dLc_1807 41 rfl rfl
theorem dL_law_1870 : decode cL_law 1870 = .ok (.iconst 1, 1) := row_of dLc_1807 42 rfl rfl
theorem dL_law_1871 : decode cL_law 1871 = .ok (.ireturn, 1) := row_of dLc_1807 43 rfl rfl

def R_law : String := "NoonValleyLaw"
def lw_P (b : Addr) (xs : List Int32) (args : Array Value) (s : State) : Prop := args = #[.ref b] ∧ s.IntsAt b xs ∧ xs.length ≤ 6 ∧ (Jvm.Cond.and given_1 narrow_1).before args s = true
def lw_Q (_ : Array Value) (s : State) (o : Outcome) (t : State) : Prop := o = .returned (some (.int 1)) ∧ Framed s o t [] 600002 7302232
def lw_Z (below : List Frame) (a : Array Value) (s : State) : State → Prop := fun t => ∃ o, t.status = .running ∧ Ended t below o ∧ lw_Q a s o t
/-- the law's own end, with 1 on the stack, nothing written that was there before, its room as the claim has it -/
theorem lw_ret {p : Program} {l : Launch} {e : Env} {s : State} {m : MethodId} {below : List Frame} {meth : Method} {c : Code} {b : Nat} (hx : p.tables.exec = Jvm.exec) (hb : c.code = code) (hr : meth.sig.returnType = ret) (hlocks : meth.locks = false) {pc : Nat} {H : Heap} {ls : Array Slot} (hdg : decode code pc = .ok (.ireturn, 1)) : W p l e room_1 s m #[Value.ref b] below meth c H [] 600002 7302232 (lw_Z below #[Value.ref b] s) (F0 m pc ls [.int 1]) := by
  intro T hT X
  obtain ⟨fs, hret, hrun, hended, hW, hframe⟩ := X.leave (v := some (.int 1)) (hlocks := hlocks) (fun h => by rw [hr] at h; cases h)
  have hmeth' : T.vm.method? m = some meth := X.method'
  refine ⟨T.setFrames fs, ?_, .returned (some (.int 1)), hrun, hended, rfl, ⟨_, rfl⟩, hW, hframe⟩
  jvm_step X.here [X.here.top, hx, hb, hdg, hmeth', hr, ret, narrow_b1]
  (try refine ⟨rfl, ?_⟩); (try refine ⟨rfl, ?_⟩)
  first | (intro acts; rw [hret _ acts rfl rfl rfl]) | rw [hret _ _ rfl rfl rfl]
  exact Steps.refl _
/-- what holds at the law's entry: the machine, the code, the tables' words (any of lw_tbl by 'hts w (by decide +kernel)'), the script of L ints xs at the cell b, what the Statement gives of the start (any of its parts by flat_of_before) -/
def lw_At (p : Program) (s : State) (m : MethodId) (meth : Method) (c : Code) (b L : Nat) (xs : Nat → Int32) : Prop :=
  p.tables.exec = Jvm.exec ∧ c.code = code ∧ meth.sig.returnType = ret ∧ c.maxLocals = 7 ∧ s.vm.findClass R_law = some m.cls ∧ (∀ w ∈ lw_tbl, w.before #[Value.ref b] s = true) ∧ va_X b L xs s s.heap ∧ b < s.heap.size ∧ meth.locks = false ∧ (Jvm.Cond.and given_1 narrow_1).before #[Value.ref b] s = true
theorem lg_self (x : Int64) : lg_cmp x x = 0 := by
  have h : ¬ x < x := by rw [fa_lt64]; omega
  simp [lg_cmp, h]
abbrev AL (s : State) : Nat → Prop := fun q => s.heap.size ≤ q
theorem m_1424 : (Cond.code yX12_thrown prog_14_method_2_code 1 (Option.some FieldType.int)) ∈ BW := bw (tb6 224 (by decide +kernel)) (by decide +kernel)
theorem dX12_thrown_0 : decode cX12_thrown 0 = .ok (.aload_n 0, 1) := by decide +kernel
theorem dX12_thrown_1 : decode cX12_thrown 1 = .ok (.getfield 160, 3) := by decide +kernel
theorem dX12_thrown_4 : decode cX12_thrown 4 = .ok (.ireturn, 1) := by decide +kernel
theorem dL_law_1865 : decode cL_law 1865 = .ok (.iinc 4 6, 3) := by decide +kernel
theorem dL_law_1868 : decode cL_law 1868 = .ok (.goto (-1845), 3) := by decide +kernel
theorem dL_law_23 : decode cL_law 23 = .ok (.iload 4, 2) := by decide +kernel
theorem dL_law_25 : decode cL_law 25 = .ok (.aload_n 0, 1) := by decide +kernel
theorem dL_law_26 : decode cL_law 26 = .ok (.arraylength, 1) := by decide +kernel
theorem dL_law_27 : decode cL_law 27 = .ok (.bipush 6, 2) := by decide +kernel
theorem dL_law_29 : decode cL_law 29 = .ok (.isub, 1) := by decide +kernel
theorem dL_law_30 : decode cL_law 30 = .ok (.if_icmp .gt 1841, 3) := by decide +kernel
theorem dL_law_1871 : decode cL_law 1871 = .ok (.iconst 1, 1) := by decide +kernel
theorem dL_law_1872 : decode cL_law 1872 = .ok (.ireturn, 1) := by decide +kernel
theorem dL_law_204 : decode cL_law 204 = .ok (.aload_n 1, 1) := by decide +kernel
theorem dL_law_205 : decode cL_law 205 = .ok (.aload_n 0, 1) := by decide +kernel
theorem dL_law_206 : decode cL_law 206 = .ok (.iload 4, 2) := by decide +kernel
theorem dL_law_208 : decode cL_law 208 = .ok (.iconst 1, 1) := by decide +kernel
theorem dL_law_209 : decode cL_law 209 = .ok (.iadd, 1) := by decide +kernel
theorem dL_law_210 : decode cL_law 210 = .ok (.iaload, 1) := by decide +kernel
theorem dL_law_211 : decode cL_law 211 = .ok (.aload_n 0, 1) := by decide +kernel
theorem dL_law_212 : decode cL_law 212 = .ok (.iload 4, 2) := by decide +kernel
theorem dL_law_214 : decode cL_law 214 = .ok (.iconst 2, 1) := by decide +kernel
theorem dL_law_215 : decode cL_law 215 = .ok (.iadd, 1) := by decide +kernel
theorem dL_law_216 : decode cL_law 216 = .ok (.iaload, 1) := by decide +kernel
theorem dL_law_217 : decode cL_law 217 = .ok (.aload_n 0, 1) := by decide +kernel
theorem dL_law_218 : decode cL_law 218 = .ok (.iload 4, 2) := by decide +kernel
theorem dL_law_220 : decode cL_law 220 = .ok (.iconst 3, 1) := by decide +kernel
theorem dL_law_221 : decode cL_law 221 = .ok (.iadd, 1) := by decide +kernel
theorem dL_law_222 : decode cL_law 222 = .ok (.iaload, 1) := by decide +kernel
theorem dL_law_223 : decode cL_law 223 = .ok (.aload_n 0, 1) := by decide +kernel
theorem dL_law_224 : decode cL_law 224 = .ok (.iload 4, 2) := by decide +kernel
theorem dL_law_226 : decode cL_law 226 = .ok (.iconst 4, 1) := by decide +kernel
theorem dL_law_227 : decode cL_law 227 = .ok (.iadd, 1) := by decide +kernel
theorem dL_law_228 : decode cL_law 228 = .ok (.iaload, 1) := by decide +kernel
theorem dL_law_229 : decode cL_law 229 = .ok (.aload_n 0, 1) := by decide +kernel
theorem dL_law_230 : decode cL_law 230 = .ok (.iload 4, 2) := by decide +kernel
theorem dL_law_232 : decode cL_law 232 = .ok (.iconst 5, 1) := by decide +kernel
theorem dL_law_233 : decode cL_law 233 = .ok (.iadd, 1) := by decide +kernel
theorem dL_law_234 : decode cL_law 234 = .ok (.iaload, 1) := by decide +kernel
theorem m_396 : (Cond.methodLink "NoonValleyLaw" 19 yX11_feed) ∈ BW := bw (tb2 156 (by decide +kernel)) (by decide +kernel)
theorem m_397 : (Cond.instanceMethod yX11_feed) ∈ BW := bw (tb2 157 (by decide +kernel)) (by decide +kernel)
theorem m_398 : (Cond.selects "NoonValley" yX11_feed yX11_feed) ∈ BW := bw (tb2 158 (by decide +kernel)) (by decide +kernel)
theorem vL_19 : LV RL 19 RX11 yX11_feed cX11_feed 6 (some .int) 5 := ⟨m_396, m_397, m_398, m_1, m_399, rfl, by decide, by decide, by decide +kernel⟩
theorem dL_law_235 : decode cL_law 235 = .ok (.invokevirtual 19, 3) := by decide +kernel
theorem dL_law_238 : decode cL_law 238 = .ok (.aload_n 2, 1) := by decide +kernel
theorem dL_law_239 : decode cL_law 239 = .ok (.aload_n 0, 1) := by decide +kernel
theorem dL_law_240 : decode cL_law 240 = .ok (.iload 4, 2) := by decide +kernel
theorem dL_law_242 : decode cL_law 242 = .ok (.iconst 1, 1) := by decide +kernel
theorem dL_law_243 : decode cL_law 243 = .ok (.iadd, 1) := by decide +kernel
theorem dL_law_244 : decode cL_law 244 = .ok (.iaload, 1) := by decide +kernel
theorem dL_law_245 : decode cL_law 245 = .ok (.aload_n 0, 1) := by decide +kernel
theorem dL_law_246 : decode cL_law 246 = .ok (.iload 4, 2) := by decide +kernel
theorem dL_law_248 : decode cL_law 248 = .ok (.iconst 2, 1) := by decide +kernel
theorem dL_law_249 : decode cL_law 249 = .ok (.iadd, 1) := by decide +kernel
theorem dL_law_250 : decode cL_law 250 = .ok (.iaload, 1) := by decide +kernel
theorem dL_law_251 : decode cL_law 251 = .ok (.aload_n 0, 1) := by decide +kernel
theorem dL_law_252 : decode cL_law 252 = .ok (.iload 4, 2) := by decide +kernel
theorem dL_law_254 : decode cL_law 254 = .ok (.iconst 3, 1) := by decide +kernel
theorem dL_law_255 : decode cL_law 255 = .ok (.iadd, 1) := by decide +kernel
theorem dL_law_256 : decode cL_law 256 = .ok (.iaload, 1) := by decide +kernel
theorem dL_law_257 : decode cL_law 257 = .ok (.aload_n 0, 1) := by decide +kernel
theorem dL_law_258 : decode cL_law 258 = .ok (.iload 4, 2) := by decide +kernel
theorem dL_law_260 : decode cL_law 260 = .ok (.iconst 4, 1) := by decide +kernel
theorem dL_law_261 : decode cL_law 261 = .ok (.iadd, 1) := by decide +kernel
theorem dL_law_262 : decode cL_law 262 = .ok (.iaload, 1) := by decide +kernel
theorem dL_law_263 : decode cL_law 263 = .ok (.aload_n 0, 1) := by decide +kernel
theorem dL_law_264 : decode cL_law 264 = .ok (.iload 4, 2) := by decide +kernel
theorem dL_law_266 : decode cL_law 266 = .ok (.iconst 5, 1) := by decide +kernel
theorem dL_law_267 : decode cL_law 267 = .ok (.iadd, 1) := by decide +kernel
theorem dL_law_268 : decode cL_law 268 = .ok (.iaload, 1) := by decide +kernel
theorem m_1425 : (Cond.methodLink "NoonValleyLaw" 23 yX12_feed) ∈ BW := bw (tb6 225 (by decide +kernel)) (by decide +kernel)
theorem m_1426 : (Cond.instanceMethod yX12_feed) ∈ BW := bw (tb6 226 (by decide +kernel)) (by decide +kernel)
theorem m_1427 : (Cond.selects "NoonValleyModel" yX12_feed yX12_feed) ∈ BW := bw (tb6 227 (by decide +kernel)) (by decide +kernel)
theorem vL_23 : LV RL 23 RX12 yX12_feed cX12_feed 6 (some .int) 5 := ⟨m_1425, m_1426, m_1427, m_12, m_1428, rfl, by decide, by decide, by decide +kernel⟩
theorem dL_law_269 : decode cL_law 269 = .ok (.invokevirtual 23, 3) := by decide +kernel
theorem dL_law_272 : decode cL_law 272 = .ok (.if_icmp .eq 1593, 3) := by decide +kernel
theorem dL_law_277 : decode cL_law 277 = .ok (.aload_n 1, 1) := by decide +kernel
theorem dL_law_278 : decode cL_law 278 = .ok (.aload_n 0, 1) := by decide +kernel
theorem dL_law_279 : decode cL_law 279 = .ok (.iload 4, 2) := by decide +kernel
theorem dL_law_281 : decode cL_law 281 = .ok (.iconst 1, 1) := by decide +kernel
theorem dL_law_282 : decode cL_law 282 = .ok (.iadd, 1) := by decide +kernel
theorem dL_law_283 : decode cL_law 283 = .ok (.iaload, 1) := by decide +kernel
theorem m_411 : (Cond.methodLink "NoonValleyLaw" 24 yX11_end) ∈ BW := bw (tb2 171 (by decide +kernel)) (by decide +kernel)
theorem m_412 : (Cond.instanceMethod yX11_end) ∈ BW := bw (tb2 172 (by decide +kernel)) (by decide +kernel)
theorem m_413 : (Cond.selects "NoonValley" yX11_end yX11_end) ∈ BW := bw (tb2 173 (by decide +kernel)) (by decide +kernel)
theorem vL_24 : LV RL 24 RX11 yX11_end cX11_end 2 (some .boolean) 1 := ⟨m_411, m_412, m_413, m_1, m_414, rfl, by decide, by decide, by decide +kernel⟩
theorem dL_law_284 : decode cL_law 284 = .ok (.invokevirtual 24, 3) := by decide +kernel
theorem dL_law_287 : decode cL_law 287 = .ok (.aload_n 2, 1) := by decide +kernel
theorem dL_law_288 : decode cL_law 288 = .ok (.aload_n 0, 1) := by decide +kernel
theorem dL_law_289 : decode cL_law 289 = .ok (.iload 4, 2) := by decide +kernel
theorem dL_law_291 : decode cL_law 291 = .ok (.iconst 1, 1) := by decide +kernel
theorem dL_law_292 : decode cL_law 292 = .ok (.iadd, 1) := by decide +kernel
theorem dL_law_293 : decode cL_law 293 = .ok (.iaload, 1) := by decide +kernel
theorem m_1436 : (Cond.methodLink "NoonValleyLaw" 28 yX12_end) ∈ BW := bw (tb6 236 (by decide +kernel)) (by decide +kernel)
theorem m_1437 : (Cond.instanceMethod yX12_end) ∈ BW := bw (tb6 237 (by decide +kernel)) (by decide +kernel)
theorem m_1438 : (Cond.selects "NoonValleyModel" yX12_end yX12_end) ∈ BW := bw (tb6 238 (by decide +kernel)) (by decide +kernel)
theorem vL_28 : LV RL 28 RX12 yX12_end cX12_end 2 (some .boolean) 1 := ⟨m_1436, m_1437, m_1438, m_12, m_1439, rfl, by decide, by decide, by decide +kernel⟩
theorem dL_law_294 : decode cL_law 294 = .ok (.invokevirtual 28, 3) := by decide +kernel
theorem dL_law_297 : decode cL_law 297 = .ok (.if_icmp .eq 1568, 3) := by decide +kernel
theorem dL_law_302 : decode cL_law 302 = .ok (.aload_n 1, 1) := by decide +kernel
theorem m_419 : (Cond.methodLink "NoonValleyLaw" 29 yX11_fault) ∈ BW := bw (tb2 179 (by decide +kernel)) (by decide +kernel)
theorem m_420 : (Cond.instanceMethod yX11_fault) ∈ BW := bw (tb2 180 (by decide +kernel)) (by decide +kernel)
theorem m_421 : (Cond.selects "NoonValley" yX11_fault yX11_fault) ∈ BW := bw (tb2 181 (by decide +kernel)) (by decide +kernel)
theorem vL_29 : LV RL 29 RX11 yX11_fault cX11_fault 1 (some .int) 0 := ⟨m_419, m_420, m_421, m_1, m_422, rfl, by decide, by decide, by decide +kernel⟩
theorem dL_law_303 : decode cL_law 303 = .ok (.invokevirtual 29, 3) := by decide +kernel
theorem dL_law_306 : decode cL_law 306 = .ok (.aload_n 2, 1) := by decide +kernel
theorem m_1440 : (Cond.methodLink "NoonValleyLaw" 33 yX12_fault) ∈ BW := bw (tb7 0 (by decide +kernel)) (by decide +kernel)
theorem m_1441 : (Cond.instanceMethod yX12_fault) ∈ BW := bw (tb7 1 (by decide +kernel)) (by decide +kernel)
theorem m_1442 : (Cond.selects "NoonValleyModel" yX12_fault yX12_fault) ∈ BW := bw (tb7 2 (by decide +kernel)) (by decide +kernel)
theorem vL_33 : LV RL 33 RX12 yX12_fault cX12_fault 2 (some .int) 0 := ⟨m_1440, m_1441, m_1442, m_12, m_1443, rfl, by decide, by decide, by decide +kernel⟩
theorem dL_law_307 : decode cL_law 307 = .ok (.invokevirtual 33, 3) := by decide +kernel
theorem dL_law_310 : decode cL_law 310 = .ok (.if_icmp .eq 1555, 3) := by decide +kernel
theorem dL_law_315 : decode cL_law 315 = .ok (.aload_n 1, 1) := by decide +kernel
theorem m_475 : (Cond.methodLink "NoonValleyLaw" 34 yX11_valley) ∈ BW := bw (tb2 235 (by decide +kernel)) (by decide +kernel)
theorem m_476 : (Cond.instanceMethod yX11_valley) ∈ BW := bw (tb2 236 (by decide +kernel)) (by decide +kernel)
theorem m_477 : (Cond.selects "NoonValley" yX11_valley yX11_valley) ∈ BW := bw (tb2 237 (by decide +kernel)) (by decide +kernel)
theorem vL_34 : LV RL 34 RX11 yX11_valley cX11_valley 1 (some .int) 0 := ⟨m_475, m_476, m_477, m_1, m_478, rfl, by decide, by decide, by decide +kernel⟩
theorem dL_law_316 : decode cL_law 316 = .ok (.invokevirtual 34, 3) := by decide +kernel
theorem dL_law_319 : decode cL_law 319 = .ok (.aload_n 2, 1) := by decide +kernel
theorem m_1483 : (Cond.methodLink "NoonValleyLaw" 37 yX12_valley) ∈ BW := bw (tb7 43 (by decide +kernel)) (by decide +kernel)
theorem m_1484 : (Cond.instanceMethod yX12_valley) ∈ BW := bw (tb7 44 (by decide +kernel)) (by decide +kernel)
theorem m_1485 : (Cond.selects "NoonValleyModel" yX12_valley yX12_valley) ∈ BW := bw (tb7 45 (by decide +kernel)) (by decide +kernel)
theorem vL_37 : LV RL 37 RX12 yX12_valley cX12_valley 2 (some .int) 0 := ⟨m_1483, m_1484, m_1485, m_12, m_1486, rfl, by decide, by decide, by decide +kernel⟩
theorem dL_law_320 : decode cL_law 320 = .ok (.invokevirtual 37, 3) := by decide +kernel
theorem dL_law_323 : decode cL_law 323 = .ok (.if_icmp .eq 1542, 3) := by decide +kernel
theorem dL_law_328 : decode cL_law 328 = .ok (.aload_n 1, 1) := by decide +kernel
theorem dL_law_329 : decode cL_law 329 = .ok (.aload_n 0, 1) := by decide +kernel
theorem dL_law_330 : decode cL_law 330 = .ok (.iload 4, 2) := by decide +kernel
theorem dL_law_332 : decode cL_law 332 = .ok (.iconst 1, 1) := by decide +kernel
theorem dL_law_333 : decode cL_law 333 = .ok (.iadd, 1) := by decide +kernel
theorem dL_law_334 : decode cL_law 334 = .ok (.iaload, 1) := by decide +kernel
theorem dL_law_335 : decode cL_law 335 = .ok (.aload_n 0, 1) := by decide +kernel
theorem dL_law_336 : decode cL_law 336 = .ok (.iload 4, 2) := by decide +kernel
theorem dL_law_338 : decode cL_law 338 = .ok (.iconst 2, 1) := by decide +kernel
theorem dL_law_339 : decode cL_law 339 = .ok (.iadd, 1) := by decide +kernel
theorem dL_law_340 : decode cL_law 340 = .ok (.iaload, 1) := by decide +kernel
theorem m_517 : (Cond.methodLink "NoonValleyLaw" 38 yX11_told) ∈ BW := bw (tb3 37 (by decide +kernel)) (by decide +kernel)
theorem m_518 : (Cond.instanceMethod yX11_told) ∈ BW := bw (tb3 38 (by decide +kernel)) (by decide +kernel)
theorem m_519 : (Cond.selects "NoonValley" yX11_told yX11_told) ∈ BW := bw (tb3 39 (by decide +kernel)) (by decide +kernel)
theorem vL_38 : LV RL 38 RX11 yX11_told cX11_told 5 (some .int) 2 := ⟨m_517, m_518, m_519, m_1, m_520, rfl, by decide, by decide, by decide +kernel⟩
theorem dL_law_341 : decode cL_law 341 = .ok (.invokevirtual 38, 3) := by decide +kernel
theorem dL_law_344 : decode cL_law 344 = .ok (.aload_n 2, 1) := by decide +kernel
theorem dL_law_345 : decode cL_law 345 = .ok (.aload_n 0, 1) := by decide +kernel
theorem dL_law_346 : decode cL_law 346 = .ok (.iload 4, 2) := by decide +kernel
theorem dL_law_348 : decode cL_law 348 = .ok (.iconst 1, 1) := by decide +kernel
theorem dL_law_349 : decode cL_law 349 = .ok (.iadd, 1) := by decide +kernel
theorem dL_law_350 : decode cL_law 350 = .ok (.iaload, 1) := by decide +kernel
theorem dL_law_351 : decode cL_law 351 = .ok (.aload_n 0, 1) := by decide +kernel
theorem dL_law_352 : decode cL_law 352 = .ok (.iload 4, 2) := by decide +kernel
theorem dL_law_354 : decode cL_law 354 = .ok (.iconst 2, 1) := by decide +kernel
theorem dL_law_355 : decode cL_law 355 = .ok (.iadd, 1) := by decide +kernel
theorem dL_law_356 : decode cL_law 356 = .ok (.iaload, 1) := by decide +kernel
theorem m_1487 : (Cond.methodLink "NoonValleyLaw" 42 yX12_told) ∈ BW := bw (tb7 47 (by decide +kernel)) (by decide +kernel)
theorem m_1488 : (Cond.instanceMethod yX12_told) ∈ BW := bw (tb7 48 (by decide +kernel)) (by decide +kernel)
theorem m_1489 : (Cond.selects "NoonValleyModel" yX12_told yX12_told) ∈ BW := bw (tb7 49 (by decide +kernel)) (by decide +kernel)
theorem vL_42 : LV RL 42 RX12 yX12_told cX12_told 3 (some .int) 2 := ⟨m_1487, m_1488, m_1489, m_12, m_1490, rfl, by decide, by decide, by decide +kernel⟩
theorem dL_law_357 : decode cL_law 357 = .ok (.invokevirtual 42, 3) := by decide +kernel
theorem dL_law_360 : decode cL_law 360 = .ok (.if_icmp .eq 1505, 3) := by decide +kernel
theorem dL_law_365 : decode cL_law 365 = .ok (.aload_n 1, 1) := by decide +kernel
theorem dL_law_366 : decode cL_law 366 = .ok (.aload_n 0, 1) := by decide +kernel
theorem dL_law_367 : decode cL_law 367 = .ok (.iload 4, 2) := by decide +kernel
theorem dL_law_369 : decode cL_law 369 = .ok (.iconst 1, 1) := by decide +kernel
theorem dL_law_370 : decode cL_law 370 = .ok (.iadd, 1) := by decide +kernel
theorem dL_law_371 : decode cL_law 371 = .ok (.iaload, 1) := by decide +kernel
theorem dL_law_372 : decode cL_law 372 = .ok (.aload_n 0, 1) := by decide +kernel
theorem dL_law_373 : decode cL_law 373 = .ok (.iload 4, 2) := by decide +kernel
theorem dL_law_375 : decode cL_law 375 = .ok (.iconst 2, 1) := by decide +kernel
theorem dL_law_376 : decode cL_law 376 = .ok (.iadd, 1) := by decide +kernel
theorem dL_law_377 : decode cL_law 377 = .ok (.iaload, 1) := by decide +kernel
theorem dL_law_378 : decode cL_law 378 = .ok (.aload_n 0, 1) := by decide +kernel
theorem dL_law_379 : decode cL_law 379 = .ok (.iload 4, 2) := by decide +kernel
theorem dL_law_381 : decode cL_law 381 = .ok (.iconst 3, 1) := by decide +kernel
theorem dL_law_382 : decode cL_law 382 = .ok (.iadd, 1) := by decide +kernel
theorem dL_law_383 : decode cL_law 383 = .ok (.iaload, 1) := by decide +kernel
theorem dL_law_384 : decode cL_law 384 = .ok (.aload_n 3, 1) := by decide +kernel
theorem m_1153 : (Cond.methodLink "NoonValleyLaw" 43 yL_line) ∈ BW := bw (tb5 193 (by decide +kernel)) (by decide +kernel)
theorem m_1154 : (Cond.static yL_line) ∈ BW := bw (tb5 194 (by decide +kernel)) (by decide +kernel)
theorem m_0 : (Cond.initialized "NoonValleyLaw") ∈ BW := bw (tb1 0 (by decide +kernel)) (by decide +kernel)
theorem dL_law_385 : decode cL_law 385 = .ok (.invokestatic 43, 3) := by decide +kernel
theorem dL_law_388 : decode cL_law 388 = .ok (.istore 5, 2) := by decide +kernel
theorem dL_law_390 : decode cL_law 390 = .ok (.aload_n 2, 1) := by decide +kernel
theorem dL_law_391 : decode cL_law 391 = .ok (.aload_n 0, 1) := by decide +kernel
theorem dL_law_392 : decode cL_law 392 = .ok (.iload 4, 2) := by decide +kernel
theorem dL_law_394 : decode cL_law 394 = .ok (.iconst 1, 1) := by decide +kernel
theorem dL_law_395 : decode cL_law 395 = .ok (.iadd, 1) := by decide +kernel
theorem dL_law_396 : decode cL_law 396 = .ok (.iaload, 1) := by decide +kernel
theorem dL_law_397 : decode cL_law 397 = .ok (.aload_n 0, 1) := by decide +kernel
theorem dL_law_398 : decode cL_law 398 = .ok (.iload 4, 2) := by decide +kernel
theorem dL_law_400 : decode cL_law 400 = .ok (.iconst 2, 1) := by decide +kernel
theorem dL_law_401 : decode cL_law 401 = .ok (.iadd, 1) := by decide +kernel
theorem dL_law_402 : decode cL_law 402 = .ok (.iaload, 1) := by decide +kernel
theorem dL_law_403 : decode cL_law 403 = .ok (.aload_n 0, 1) := by decide +kernel
theorem dL_law_404 : decode cL_law 404 = .ok (.iload 4, 2) := by decide +kernel
theorem dL_law_406 : decode cL_law 406 = .ok (.iconst 3, 1) := by decide +kernel
theorem dL_law_407 : decode cL_law 407 = .ok (.iadd, 1) := by decide +kernel
theorem dL_law_408 : decode cL_law 408 = .ok (.iaload, 1) := by decide +kernel
theorem m_1495 : (Cond.methodLink "NoonValleyLaw" 48 yX12_line) ∈ BW := bw (tb7 55 (by decide +kernel)) (by decide +kernel)
theorem m_1496 : (Cond.instanceMethod yX12_line) ∈ BW := bw (tb7 56 (by decide +kernel)) (by decide +kernel)
theorem m_1497 : (Cond.selects "NoonValleyModel" yX12_line yX12_line) ∈ BW := bw (tb7 57 (by decide +kernel)) (by decide +kernel)
theorem vL_48 : LV RL 48 RX12 yX12_line cX12_line 5 (some .int) 3 := ⟨m_1495, m_1496, m_1497, m_12, m_1498, rfl, by decide, by decide, by decide +kernel⟩
theorem dL_law_409 : decode cL_law 409 = .ok (.invokevirtual 48, 3) := by decide +kernel
theorem dL_law_412 : decode cL_law 412 = .ok (.istore 6, 2) := by decide +kernel
theorem dL_law_414 : decode cL_law 414 = .ok (.aload_n 2, 1) := by decide +kernel
theorem m_1421 : (Cond.methodLink "NoonValleyLaw" 49 yX12_thrown) ∈ BW := bw (tb6 221 (by decide +kernel)) (by decide +kernel)
theorem m_1422 : (Cond.instanceMethod yX12_thrown) ∈ BW := bw (tb6 222 (by decide +kernel)) (by decide +kernel)
theorem m_1423 : (Cond.selects "NoonValleyModel" yX12_thrown yX12_thrown) ∈ BW := bw (tb6 223 (by decide +kernel)) (by decide +kernel)
theorem vL_49 : LV RL 49 RX12 yX12_thrown cX12_thrown 1 (some .int) 0 := ⟨m_1421, m_1422, m_1423, m_12, m_1424, rfl, by decide, by decide, by decide +kernel⟩
theorem dL_law_415 : decode cL_law 415 = .ok (.invokevirtual 49, 3) := by decide +kernel
theorem dL_law_418 : decode cL_law 418 = .ok (.iload 5, 2) := by decide +kernel
theorem dL_law_420 : decode cL_law 420 = .ok (.if_icmp .eq 5, 3) := by decide +kernel
theorem dL_law_425 : decode cL_law 425 = .ok (.iload 5, 2) := by decide +kernel
theorem dL_law_427 : decode cL_law 427 = .ok (.ifCond .ne 15, 3) := by decide +kernel
theorem dL_law_442 : decode cL_law 442 = .ok (.goto 1423, 3) := by decide +kernel
theorem dL_law_445 : decode cL_law 445 = .ok (.aload_n 1, 1) := by decide +kernel
theorem dL_law_446 : decode cL_law 446 = .ok (.aload_n 0, 1) := by decide +kernel
theorem dL_law_447 : decode cL_law 447 = .ok (.iload 4, 2) := by decide +kernel
theorem dL_law_449 : decode cL_law 449 = .ok (.iconst 1, 1) := by decide +kernel
theorem dL_law_450 : decode cL_law 450 = .ok (.iadd, 1) := by decide +kernel
theorem dL_law_451 : decode cL_law 451 = .ok (.iaload, 1) := by decide +kernel
theorem dL_law_452 : decode cL_law 452 = .ok (.aload_n 0, 1) := by decide +kernel
theorem dL_law_453 : decode cL_law 453 = .ok (.iload 4, 2) := by decide +kernel
theorem dL_law_455 : decode cL_law 455 = .ok (.iconst 2, 1) := by decide +kernel
theorem dL_law_456 : decode cL_law 456 = .ok (.iadd, 1) := by decide +kernel
theorem dL_law_457 : decode cL_law 457 = .ok (.iaload, 1) := by decide +kernel
theorem dL_law_458 : decode cL_law 458 = .ok (.aload_n 0, 1) := by decide +kernel
theorem dL_law_459 : decode cL_law 459 = .ok (.iload 4, 2) := by decide +kernel
theorem dL_law_461 : decode cL_law 461 = .ok (.iconst 3, 1) := by decide +kernel
theorem dL_law_462 : decode cL_law 462 = .ok (.iadd, 1) := by decide +kernel
theorem dL_law_463 : decode cL_law 463 = .ok (.iaload, 1) := by decide +kernel
theorem m_525 : (Cond.methodLink "NoonValleyLaw" 52 yX11_down) ∈ BW := bw (tb3 45 (by decide +kernel)) (by decide +kernel)
theorem m_526 : (Cond.instanceMethod yX11_down) ∈ BW := bw (tb3 46 (by decide +kernel)) (by decide +kernel)
theorem m_527 : (Cond.selects "NoonValley" yX11_down yX11_down) ∈ BW := bw (tb3 47 (by decide +kernel)) (by decide +kernel)
theorem vL_52 : LV RL 52 RX11 yX11_down cX11_down 5 (some .boolean) 3 := ⟨m_525, m_526, m_527, m_1, m_528, rfl, by decide, by decide, by decide +kernel⟩
theorem dL_law_464 : decode cL_law 464 = .ok (.invokevirtual 52, 3) := by decide +kernel
theorem dL_law_467 : decode cL_law 467 = .ok (.aload_n 2, 1) := by decide +kernel
theorem dL_law_468 : decode cL_law 468 = .ok (.aload_n 0, 1) := by decide +kernel
theorem dL_law_469 : decode cL_law 469 = .ok (.iload 4, 2) := by decide +kernel
theorem dL_law_471 : decode cL_law 471 = .ok (.iconst 1, 1) := by decide +kernel
theorem dL_law_472 : decode cL_law 472 = .ok (.iadd, 1) := by decide +kernel
theorem dL_law_473 : decode cL_law 473 = .ok (.iaload, 1) := by decide +kernel
theorem dL_law_474 : decode cL_law 474 = .ok (.aload_n 0, 1) := by decide +kernel
theorem dL_law_475 : decode cL_law 475 = .ok (.iload 4, 2) := by decide +kernel
theorem dL_law_477 : decode cL_law 477 = .ok (.iconst 2, 1) := by decide +kernel
theorem dL_law_478 : decode cL_law 478 = .ok (.iadd, 1) := by decide +kernel
theorem dL_law_479 : decode cL_law 479 = .ok (.iaload, 1) := by decide +kernel
theorem dL_law_480 : decode cL_law 480 = .ok (.aload_n 0, 1) := by decide +kernel
theorem dL_law_481 : decode cL_law 481 = .ok (.iload 4, 2) := by decide +kernel
theorem dL_law_483 : decode cL_law 483 = .ok (.iconst 3, 1) := by decide +kernel
theorem dL_law_484 : decode cL_law 484 = .ok (.iadd, 1) := by decide +kernel
theorem dL_law_485 : decode cL_law 485 = .ok (.iaload, 1) := by decide +kernel
theorem m_1503 : (Cond.methodLink "NoonValleyLaw" 56 yX12_down) ∈ BW := bw (tb7 63 (by decide +kernel)) (by decide +kernel)
theorem m_1504 : (Cond.instanceMethod yX12_down) ∈ BW := bw (tb7 64 (by decide +kernel)) (by decide +kernel)
theorem m_1505 : (Cond.selects "NoonValleyModel" yX12_down yX12_down) ∈ BW := bw (tb7 65 (by decide +kernel)) (by decide +kernel)
theorem vL_56 : LV RL 56 RX12 yX12_down cX12_down 4 (some .boolean) 3 := ⟨m_1503, m_1504, m_1505, m_12, m_1506, rfl, by decide, by decide, by decide +kernel⟩
theorem dL_law_486 : decode cL_law 486 = .ok (.invokevirtual 56, 3) := by decide +kernel
theorem dL_law_489 : decode cL_law 489 = .ok (.if_icmp .eq 1376, 3) := by decide +kernel
theorem dL_law_494 : decode cL_law 494 = .ok (.aload_n 1, 1) := by decide +kernel
theorem dL_law_495 : decode cL_law 495 = .ok (.aload_n 0, 1) := by decide +kernel
theorem dL_law_496 : decode cL_law 496 = .ok (.iload 4, 2) := by decide +kernel
theorem dL_law_498 : decode cL_law 498 = .ok (.iconst 1, 1) := by decide +kernel
theorem dL_law_499 : decode cL_law 499 = .ok (.iadd, 1) := by decide +kernel
theorem dL_law_500 : decode cL_law 500 = .ok (.iaload, 1) := by decide +kernel
theorem dL_law_501 : decode cL_law 501 = .ok (.aload_n 0, 1) := by decide +kernel
theorem dL_law_502 : decode cL_law 502 = .ok (.iload 4, 2) := by decide +kernel
theorem dL_law_504 : decode cL_law 504 = .ok (.iconst 2, 1) := by decide +kernel
theorem dL_law_505 : decode cL_law 505 = .ok (.iadd, 1) := by decide +kernel
theorem dL_law_506 : decode cL_law 506 = .ok (.iaload, 1) := by decide +kernel
theorem dL_law_507 : decode cL_law 507 = .ok (.aload_n 0, 1) := by decide +kernel
theorem dL_law_508 : decode cL_law 508 = .ok (.iload 4, 2) := by decide +kernel
theorem dL_law_510 : decode cL_law 510 = .ok (.iconst 3, 1) := by decide +kernel
theorem dL_law_511 : decode cL_law 511 = .ok (.iadd, 1) := by decide +kernel
theorem dL_law_512 : decode cL_law 512 = .ok (.iaload, 1) := by decide +kernel
theorem dL_law_513 : decode cL_law 513 = .ok (.aload_n 0, 1) := by decide +kernel
theorem dL_law_514 : decode cL_law 514 = .ok (.iload 4, 2) := by decide +kernel
theorem dL_law_516 : decode cL_law 516 = .ok (.iconst 4, 1) := by decide +kernel
theorem dL_law_517 : decode cL_law 517 = .ok (.iadd, 1) := by decide +kernel
theorem dL_law_518 : decode cL_law 518 = .ok (.iaload, 1) := by decide +kernel
theorem m_540 : (Cond.methodLink "NoonValleyLaw" 57 yX11_may) ∈ BW := bw (tb3 60 (by decide +kernel)) (by decide +kernel)
theorem m_541 : (Cond.instanceMethod yX11_may) ∈ BW := bw (tb3 61 (by decide +kernel)) (by decide +kernel)
theorem m_542 : (Cond.selects "NoonValley" yX11_may yX11_may) ∈ BW := bw (tb3 62 (by decide +kernel)) (by decide +kernel)
theorem vL_57 : LV RL 57 RX11 yX11_may cX11_may 6 (some .int) 4 := ⟨m_540, m_541, m_542, m_1, m_543, rfl, by decide, by decide, by decide +kernel⟩
theorem dL_law_519 : decode cL_law 519 = .ok (.invokevirtual 57, 3) := by decide +kernel
theorem dL_law_522 : decode cL_law 522 = .ok (.aload_n 2, 1) := by decide +kernel
theorem dL_law_523 : decode cL_law 523 = .ok (.aload_n 0, 1) := by decide +kernel
theorem dL_law_524 : decode cL_law 524 = .ok (.iload 4, 2) := by decide +kernel
theorem dL_law_526 : decode cL_law 526 = .ok (.iconst 1, 1) := by decide +kernel
theorem dL_law_527 : decode cL_law 527 = .ok (.iadd, 1) := by decide +kernel
theorem dL_law_528 : decode cL_law 528 = .ok (.iaload, 1) := by decide +kernel
theorem dL_law_529 : decode cL_law 529 = .ok (.aload_n 0, 1) := by decide +kernel
theorem dL_law_530 : decode cL_law 530 = .ok (.iload 4, 2) := by decide +kernel
theorem dL_law_532 : decode cL_law 532 = .ok (.iconst 2, 1) := by decide +kernel
theorem dL_law_533 : decode cL_law 533 = .ok (.iadd, 1) := by decide +kernel
theorem dL_law_534 : decode cL_law 534 = .ok (.iaload, 1) := by decide +kernel
theorem dL_law_535 : decode cL_law 535 = .ok (.aload_n 0, 1) := by decide +kernel
theorem dL_law_536 : decode cL_law 536 = .ok (.iload 4, 2) := by decide +kernel
theorem dL_law_538 : decode cL_law 538 = .ok (.iconst 3, 1) := by decide +kernel
theorem dL_law_539 : decode cL_law 539 = .ok (.iadd, 1) := by decide +kernel
theorem dL_law_540 : decode cL_law 540 = .ok (.iaload, 1) := by decide +kernel
theorem dL_law_541 : decode cL_law 541 = .ok (.aload_n 0, 1) := by decide +kernel
theorem dL_law_542 : decode cL_law 542 = .ok (.iload 4, 2) := by decide +kernel
theorem dL_law_544 : decode cL_law 544 = .ok (.iconst 4, 1) := by decide +kernel
theorem dL_law_545 : decode cL_law 545 = .ok (.iadd, 1) := by decide +kernel
theorem dL_law_546 : decode cL_law 546 = .ok (.iaload, 1) := by decide +kernel
theorem m_1510 : (Cond.methodLink "NoonValleyLaw" 61 yX12_may) ∈ BW := bw (tb7 70 (by decide +kernel)) (by decide +kernel)
theorem m_1511 : (Cond.instanceMethod yX12_may) ∈ BW := bw (tb7 71 (by decide +kernel)) (by decide +kernel)
theorem m_1512 : (Cond.selects "NoonValleyModel" yX12_may yX12_may) ∈ BW := bw (tb7 72 (by decide +kernel)) (by decide +kernel)
theorem vL_61 : LV RL 61 RX12 yX12_may cX12_may 5 (some .int) 4 := ⟨m_1510, m_1511, m_1512, m_12, m_1513, rfl, by decide, by decide, by decide +kernel⟩
theorem dL_law_547 : decode cL_law 547 = .ok (.invokevirtual 61, 3) := by decide +kernel
theorem dL_law_550 : decode cL_law 550 = .ok (.if_icmp .eq 1315, 3) := by decide +kernel
theorem dL_law_555 : decode cL_law 555 = .ok (.aload_n 1, 1) := by decide +kernel
theorem dL_law_556 : decode cL_law 556 = .ok (.aload_n 0, 1) := by decide +kernel
theorem dL_law_557 : decode cL_law 557 = .ok (.iload 4, 2) := by decide +kernel
theorem dL_law_559 : decode cL_law 559 = .ok (.iconst 1, 1) := by decide +kernel
theorem dL_law_560 : decode cL_law 560 = .ok (.iadd, 1) := by decide +kernel
theorem dL_law_561 : decode cL_law 561 = .ok (.iaload, 1) := by decide +kernel
theorem m_557 : (Cond.methodLink "NoonValleyLaw" 62 yX11_plan) ∈ BW := bw (tb3 77 (by decide +kernel)) (by decide +kernel)
theorem m_558 : (Cond.instanceMethod yX11_plan) ∈ BW := bw (tb3 78 (by decide +kernel)) (by decide +kernel)
theorem m_559 : (Cond.selects "NoonValley" yX11_plan yX11_plan) ∈ BW := bw (tb3 79 (by decide +kernel)) (by decide +kernel)
theorem vL_62 : LV RL 62 RX11 yX11_plan cX11_plan 3 (some .int) 1 := ⟨m_557, m_558, m_559, m_1, m_560, rfl, by decide, by decide, by decide +kernel⟩
theorem dL_law_562 : decode cL_law 562 = .ok (.invokevirtual 62, 3) := by decide +kernel
theorem dL_law_565 : decode cL_law 565 = .ok (.aload_n 2, 1) := by decide +kernel
theorem dL_law_566 : decode cL_law 566 = .ok (.aload_n 0, 1) := by decide +kernel
theorem dL_law_567 : decode cL_law 567 = .ok (.iload 4, 2) := by decide +kernel
theorem dL_law_569 : decode cL_law 569 = .ok (.iconst 1, 1) := by decide +kernel
theorem dL_law_570 : decode cL_law 570 = .ok (.iadd, 1) := by decide +kernel
theorem dL_law_571 : decode cL_law 571 = .ok (.iaload, 1) := by decide +kernel
theorem m_1530 : (Cond.methodLink "NoonValleyLaw" 66 yX12_plan) ∈ BW := bw (tb7 90 (by decide +kernel)) (by decide +kernel)
theorem m_1531 : (Cond.instanceMethod yX12_plan) ∈ BW := bw (tb7 91 (by decide +kernel)) (by decide +kernel)
theorem m_1532 : (Cond.selects "NoonValleyModel" yX12_plan yX12_plan) ∈ BW := bw (tb7 92 (by decide +kernel)) (by decide +kernel)
theorem vL_66 : LV RL 66 RX12 yX12_plan cX12_plan 2 (some .int) 1 := ⟨m_1530, m_1531, m_1532, m_12, m_1533, rfl, by decide, by decide, by decide +kernel⟩
theorem dL_law_572 : decode cL_law 572 = .ok (.invokevirtual 66, 3) := by decide +kernel
theorem dL_law_575 : decode cL_law 575 = .ok (.if_icmp .eq 1290, 3) := by decide +kernel
theorem dL_law_580 : decode cL_law 580 = .ok (.aload_n 1, 1) := by decide +kernel
theorem dL_law_581 : decode cL_law 581 = .ok (.aload_n 0, 1) := by decide +kernel
theorem dL_law_582 : decode cL_law 582 = .ok (.iload 4, 2) := by decide +kernel
theorem dL_law_584 : decode cL_law 584 = .ok (.iconst 1, 1) := by decide +kernel
theorem dL_law_585 : decode cL_law 585 = .ok (.iadd, 1) := by decide +kernel
theorem dL_law_586 : decode cL_law 586 = .ok (.iaload, 1) := by decide +kernel
theorem dL_law_587 : decode cL_law 587 = .ok (.aload_n 0, 1) := by decide +kernel
theorem dL_law_588 : decode cL_law 588 = .ok (.iload 4, 2) := by decide +kernel
theorem dL_law_590 : decode cL_law 590 = .ok (.iconst 2, 1) := by decide +kernel
theorem dL_law_591 : decode cL_law 591 = .ok (.iadd, 1) := by decide +kernel
theorem dL_law_592 : decode cL_law 592 = .ok (.iaload, 1) := by decide +kernel
theorem dL_law_593 : decode cL_law 593 = .ok (.aload_n 0, 1) := by decide +kernel
theorem dL_law_594 : decode cL_law 594 = .ok (.iload 4, 2) := by decide +kernel
theorem dL_law_596 : decode cL_law 596 = .ok (.iconst 3, 1) := by decide +kernel
theorem dL_law_597 : decode cL_law 597 = .ok (.iadd, 1) := by decide +kernel
theorem dL_law_598 : decode cL_law 598 = .ok (.iaload, 1) := by decide +kernel
theorem dL_law_599 : decode cL_law 599 = .ok (.aload_n 0, 1) := by decide +kernel
theorem dL_law_600 : decode cL_law 600 = .ok (.iload 4, 2) := by decide +kernel
theorem dL_law_602 : decode cL_law 602 = .ok (.iconst 4, 1) := by decide +kernel
theorem dL_law_603 : decode cL_law 603 = .ok (.iadd, 1) := by decide +kernel
theorem dL_law_604 : decode cL_law 604 = .ok (.iaload, 1) := by decide +kernel
theorem dL_law_605 : decode cL_law 605 = .ok (.aload_n 0, 1) := by decide +kernel
theorem dL_law_606 : decode cL_law 606 = .ok (.iload 4, 2) := by decide +kernel
theorem dL_law_608 : decode cL_law 608 = .ok (.iconst 5, 1) := by decide +kernel
theorem dL_law_609 : decode cL_law 609 = .ok (.iadd, 1) := by decide +kernel
theorem dL_law_610 : decode cL_law 610 = .ok (.iaload, 1) := by decide +kernel
theorem m_606 : (Cond.methodLink "NoonValleyLaw" 67 yX11_call) ∈ BW := bw (tb3 126 (by decide +kernel)) (by decide +kernel)
theorem m_607 : (Cond.instanceMethod yX11_call) ∈ BW := bw (tb3 127 (by decide +kernel)) (by decide +kernel)
theorem m_608 : (Cond.selects "NoonValley" yX11_call yX11_call) ∈ BW := bw (tb3 128 (by decide +kernel)) (by decide +kernel)
theorem vL_67 : LV RL 67 RX11 yX11_call cX11_call 8 (some .int) 5 := ⟨m_606, m_607, m_608, m_1, m_609, rfl, by decide, by decide, by decide +kernel⟩
theorem dL_law_611 : decode cL_law 611 = .ok (.invokevirtual 67, 3) := by decide +kernel
theorem dL_law_614 : decode cL_law 614 = .ok (.aload_n 2, 1) := by decide +kernel
theorem dL_law_615 : decode cL_law 615 = .ok (.aload_n 0, 1) := by decide +kernel
theorem dL_law_616 : decode cL_law 616 = .ok (.iload 4, 2) := by decide +kernel
theorem dL_law_618 : decode cL_law 618 = .ok (.iconst 1, 1) := by decide +kernel
theorem dL_law_619 : decode cL_law 619 = .ok (.iadd, 1) := by decide +kernel
theorem dL_law_620 : decode cL_law 620 = .ok (.iaload, 1) := by decide +kernel
theorem dL_law_621 : decode cL_law 621 = .ok (.aload_n 0, 1) := by decide +kernel
theorem dL_law_622 : decode cL_law 622 = .ok (.iload 4, 2) := by decide +kernel
theorem dL_law_624 : decode cL_law 624 = .ok (.iconst 2, 1) := by decide +kernel
theorem dL_law_625 : decode cL_law 625 = .ok (.iadd, 1) := by decide +kernel
theorem dL_law_626 : decode cL_law 626 = .ok (.iaload, 1) := by decide +kernel
theorem dL_law_627 : decode cL_law 627 = .ok (.aload_n 0, 1) := by decide +kernel
theorem dL_law_628 : decode cL_law 628 = .ok (.iload 4, 2) := by decide +kernel
theorem dL_law_630 : decode cL_law 630 = .ok (.iconst 3, 1) := by decide +kernel
theorem dL_law_631 : decode cL_law 631 = .ok (.iadd, 1) := by decide +kernel
theorem dL_law_632 : decode cL_law 632 = .ok (.iaload, 1) := by decide +kernel
theorem dL_law_633 : decode cL_law 633 = .ok (.aload_n 0, 1) := by decide +kernel
theorem dL_law_634 : decode cL_law 634 = .ok (.iload 4, 2) := by decide +kernel
theorem dL_law_636 : decode cL_law 636 = .ok (.iconst 4, 1) := by decide +kernel
theorem dL_law_637 : decode cL_law 637 = .ok (.iadd, 1) := by decide +kernel
theorem dL_law_638 : decode cL_law 638 = .ok (.iaload, 1) := by decide +kernel
theorem dL_law_639 : decode cL_law 639 = .ok (.aload_n 0, 1) := by decide +kernel
theorem dL_law_640 : decode cL_law 640 = .ok (.iload 4, 2) := by decide +kernel
theorem dL_law_642 : decode cL_law 642 = .ok (.iconst 5, 1) := by decide +kernel
theorem dL_law_643 : decode cL_law 643 = .ok (.iadd, 1) := by decide +kernel
theorem dL_law_644 : decode cL_law 644 = .ok (.iaload, 1) := by decide +kernel
theorem m_1534 : (Cond.methodLink "NoonValleyLaw" 70 yX12_call) ∈ BW := bw (tb7 94 (by decide +kernel)) (by decide +kernel)
theorem m_1535 : (Cond.instanceMethod yX12_call) ∈ BW := bw (tb7 95 (by decide +kernel)) (by decide +kernel)
theorem m_1536 : (Cond.selects "NoonValleyModel" yX12_call yX12_call) ∈ BW := bw (tb7 96 (by decide +kernel)) (by decide +kernel)
theorem vL_70 : LV RL 70 RX12 yX12_call cX12_call 7 (some .int) 5 := ⟨m_1534, m_1535, m_1536, m_12, m_1537, rfl, by decide, by decide, by decide +kernel⟩
theorem dL_law_645 : decode cL_law 645 = .ok (.invokevirtual 70, 3) := by decide +kernel
theorem dL_law_648 : decode cL_law 648 = .ok (.if_icmp .eq 1217, 3) := by decide +kernel
theorem dL_law_653 : decode cL_law 653 = .ok (.aload_n 1, 1) := by decide +kernel
theorem dL_law_654 : decode cL_law 654 = .ok (.aload_n 0, 1) := by decide +kernel
theorem dL_law_655 : decode cL_law 655 = .ok (.iload 4, 2) := by decide +kernel
theorem dL_law_657 : decode cL_law 657 = .ok (.iconst 1, 1) := by decide +kernel
theorem dL_law_658 : decode cL_law 658 = .ok (.iadd, 1) := by decide +kernel
theorem dL_law_659 : decode cL_law 659 = .ok (.iaload, 1) := by decide +kernel
theorem dL_law_660 : decode cL_law 660 = .ok (.aload_n 0, 1) := by decide +kernel
theorem dL_law_661 : decode cL_law 661 = .ok (.iload 4, 2) := by decide +kernel
theorem dL_law_663 : decode cL_law 663 = .ok (.iconst 2, 1) := by decide +kernel
theorem dL_law_664 : decode cL_law 664 = .ok (.iadd, 1) := by decide +kernel
theorem dL_law_665 : decode cL_law 665 = .ok (.iaload, 1) := by decide +kernel
theorem m_624 : (Cond.methodLink "NoonValleyLaw" 71 yX11_lawful) ∈ BW := bw (tb3 144 (by decide +kernel)) (by decide +kernel)
theorem m_625 : (Cond.instanceMethod yX11_lawful) ∈ BW := bw (tb3 145 (by decide +kernel)) (by decide +kernel)
theorem m_626 : (Cond.selects "NoonValley" yX11_lawful yX11_lawful) ∈ BW := bw (tb3 146 (by decide +kernel)) (by decide +kernel)
theorem vL_71 : LV RL 71 RX11 yX11_lawful cX11_lawful 4 (some .int) 2 := ⟨m_624, m_625, m_626, m_1, m_627, rfl, by decide, by decide, by decide +kernel⟩
theorem dL_law_666 : decode cL_law 666 = .ok (.invokevirtual 71, 3) := by decide +kernel
theorem dL_law_669 : decode cL_law 669 = .ok (.aload_n 2, 1) := by decide +kernel
theorem dL_law_670 : decode cL_law 670 = .ok (.aload_n 0, 1) := by decide +kernel
theorem dL_law_671 : decode cL_law 671 = .ok (.iload 4, 2) := by decide +kernel
theorem dL_law_673 : decode cL_law 673 = .ok (.iconst 1, 1) := by decide +kernel
theorem dL_law_674 : decode cL_law 674 = .ok (.iadd, 1) := by decide +kernel
theorem dL_law_675 : decode cL_law 675 = .ok (.iaload, 1) := by decide +kernel
theorem dL_law_676 : decode cL_law 676 = .ok (.aload_n 0, 1) := by decide +kernel
theorem dL_law_677 : decode cL_law 677 = .ok (.iload 4, 2) := by decide +kernel
theorem dL_law_679 : decode cL_law 679 = .ok (.iconst 2, 1) := by decide +kernel
theorem dL_law_680 : decode cL_law 680 = .ok (.iadd, 1) := by decide +kernel
theorem dL_law_681 : decode cL_law 681 = .ok (.iaload, 1) := by decide +kernel
theorem m_1542 : (Cond.methodLink "NoonValleyLaw" 74 yX12_lawful) ∈ BW := bw (tb7 102 (by decide +kernel)) (by decide +kernel)
theorem m_1543 : (Cond.instanceMethod yX12_lawful) ∈ BW := bw (tb7 103 (by decide +kernel)) (by decide +kernel)
theorem m_1544 : (Cond.selects "NoonValleyModel" yX12_lawful yX12_lawful) ∈ BW := bw (tb7 104 (by decide +kernel)) (by decide +kernel)
theorem vL_74 : LV RL 74 RX12 yX12_lawful cX12_lawful 3 (some .int) 2 := ⟨m_1542, m_1543, m_1544, m_12, m_1545, rfl, by decide, by decide, by decide +kernel⟩
theorem dL_law_682 : decode cL_law 682 = .ok (.invokevirtual 74, 3) := by decide +kernel
theorem dL_law_685 : decode cL_law 685 = .ok (.if_icmp .eq 1180, 3) := by decide +kernel
theorem dL_law_690 : decode cL_law 690 = .ok (.aload_n 1, 1) := by decide +kernel
theorem dL_law_691 : decode cL_law 691 = .ok (.aload_n 0, 1) := by decide +kernel
theorem dL_law_692 : decode cL_law 692 = .ok (.iload 4, 2) := by decide +kernel
theorem dL_law_694 : decode cL_law 694 = .ok (.iconst 1, 1) := by decide +kernel
theorem dL_law_695 : decode cL_law 695 = .ok (.iadd, 1) := by decide +kernel
theorem dL_law_696 : decode cL_law 696 = .ok (.iaload, 1) := by decide +kernel
theorem m_637 : (Cond.methodLink "NoonValleyLaw" 75 yX11_unlawful) ∈ BW := bw (tb3 157 (by decide +kernel)) (by decide +kernel)
theorem m_638 : (Cond.instanceMethod yX11_unlawful) ∈ BW := bw (tb3 158 (by decide +kernel)) (by decide +kernel)
theorem m_639 : (Cond.selects "NoonValley" yX11_unlawful yX11_unlawful) ∈ BW := bw (tb3 159 (by decide +kernel)) (by decide +kernel)
theorem vL_75 : LV RL 75 RX11 yX11_unlawful cX11_unlawful 4 (some .int) 1 := ⟨m_637, m_638, m_639, m_1, m_640, rfl, by decide, by decide, by decide +kernel⟩
theorem dL_law_697 : decode cL_law 697 = .ok (.invokevirtual 75, 3) := by decide +kernel
theorem dL_law_700 : decode cL_law 700 = .ok (.aload_n 2, 1) := by decide +kernel
theorem dL_law_701 : decode cL_law 701 = .ok (.aload_n 0, 1) := by decide +kernel
theorem dL_law_702 : decode cL_law 702 = .ok (.iload 4, 2) := by decide +kernel
theorem dL_law_704 : decode cL_law 704 = .ok (.iconst 1, 1) := by decide +kernel
theorem dL_law_705 : decode cL_law 705 = .ok (.iadd, 1) := by decide +kernel
theorem dL_law_706 : decode cL_law 706 = .ok (.iaload, 1) := by decide +kernel
theorem m_1558 : (Cond.methodLink "NoonValleyLaw" 78 yX12_unlawful) ∈ BW := bw (tb7 118 (by decide +kernel)) (by decide +kernel)
theorem m_1559 : (Cond.instanceMethod yX12_unlawful) ∈ BW := bw (tb7 119 (by decide +kernel)) (by decide +kernel)
theorem m_1560 : (Cond.selects "NoonValleyModel" yX12_unlawful yX12_unlawful) ∈ BW := bw (tb7 120 (by decide +kernel)) (by decide +kernel)
theorem vL_78 : LV RL 78 RX12 yX12_unlawful cX12_unlawful 3 (some .int) 1 := ⟨m_1558, m_1559, m_1560, m_12, m_1561, rfl, by decide, by decide, by decide +kernel⟩
theorem dL_law_707 : decode cL_law 707 = .ok (.invokevirtual 78, 3) := by decide +kernel
theorem dL_law_710 : decode cL_law 710 = .ok (.if_icmp .eq 1155, 3) := by decide +kernel
theorem dL_law_715 : decode cL_law 715 = .ok (.aload_n 1, 1) := by decide +kernel
theorem dL_law_716 : decode cL_law 716 = .ok (.aload_n 0, 1) := by decide +kernel
theorem dL_law_717 : decode cL_law 717 = .ok (.iload 4, 2) := by decide +kernel
theorem dL_law_719 : decode cL_law 719 = .ok (.iconst 1, 1) := by decide +kernel
theorem dL_law_720 : decode cL_law 720 = .ok (.iadd, 1) := by decide +kernel
theorem dL_law_721 : decode cL_law 721 = .ok (.iaload, 1) := by decide +kernel
theorem dL_law_722 : decode cL_law 722 = .ok (.aload_n 0, 1) := by decide +kernel
theorem dL_law_723 : decode cL_law 723 = .ok (.iload 4, 2) := by decide +kernel
theorem dL_law_725 : decode cL_law 725 = .ok (.iconst 2, 1) := by decide +kernel
theorem dL_law_726 : decode cL_law 726 = .ok (.iadd, 1) := by decide +kernel
theorem dL_law_727 : decode cL_law 727 = .ok (.iaload, 1) := by decide +kernel
theorem dL_law_728 : decode cL_law 728 = .ok (.aload_n 0, 1) := by decide +kernel
theorem dL_law_729 : decode cL_law 729 = .ok (.iload 4, 2) := by decide +kernel
theorem dL_law_731 : decode cL_law 731 = .ok (.iconst 3, 1) := by decide +kernel
theorem dL_law_732 : decode cL_law 732 = .ok (.iadd, 1) := by decide +kernel
theorem dL_law_733 : decode cL_law 733 = .ok (.iaload, 1) := by decide +kernel
theorem m_641 : (Cond.methodLink "NoonValleyLaw" 79 yX11_known) ∈ BW := bw (tb3 161 (by decide +kernel)) (by decide +kernel)
theorem m_642 : (Cond.instanceMethod yX11_known) ∈ BW := bw (tb3 162 (by decide +kernel)) (by decide +kernel)
theorem m_643 : (Cond.selects "NoonValley" yX11_known yX11_known) ∈ BW := bw (tb3 163 (by decide +kernel)) (by decide +kernel)
theorem vL_79 : LV RL 79 RX11 yX11_known cX11_known 5 (some .int) 3 := ⟨m_641, m_642, m_643, m_1, m_644, rfl, by decide, by decide, by decide +kernel⟩
theorem dL_law_734 : decode cL_law 734 = .ok (.invokevirtual 79, 3) := by decide +kernel
theorem dL_law_737 : decode cL_law 737 = .ok (.aload_n 2, 1) := by decide +kernel
theorem dL_law_738 : decode cL_law 738 = .ok (.aload_n 0, 1) := by decide +kernel
theorem dL_law_739 : decode cL_law 739 = .ok (.iload 4, 2) := by decide +kernel
theorem dL_law_741 : decode cL_law 741 = .ok (.iconst 1, 1) := by decide +kernel
theorem dL_law_742 : decode cL_law 742 = .ok (.iadd, 1) := by decide +kernel
theorem dL_law_743 : decode cL_law 743 = .ok (.iaload, 1) := by decide +kernel
theorem dL_law_744 : decode cL_law 744 = .ok (.aload_n 0, 1) := by decide +kernel
theorem dL_law_745 : decode cL_law 745 = .ok (.iload 4, 2) := by decide +kernel
theorem dL_law_747 : decode cL_law 747 = .ok (.iconst 2, 1) := by decide +kernel
theorem dL_law_748 : decode cL_law 748 = .ok (.iadd, 1) := by decide +kernel
theorem dL_law_749 : decode cL_law 749 = .ok (.iaload, 1) := by decide +kernel
theorem dL_law_750 : decode cL_law 750 = .ok (.aload_n 0, 1) := by decide +kernel
theorem dL_law_751 : decode cL_law 751 = .ok (.iload 4, 2) := by decide +kernel
theorem dL_law_753 : decode cL_law 753 = .ok (.iconst 3, 1) := by decide +kernel
theorem dL_law_754 : decode cL_law 754 = .ok (.iadd, 1) := by decide +kernel
theorem dL_law_755 : decode cL_law 755 = .ok (.iaload, 1) := by decide +kernel
theorem m_1562 : (Cond.methodLink "NoonValleyLaw" 82 yX12_known) ∈ BW := bw (tb7 122 (by decide +kernel)) (by decide +kernel)
theorem m_1563 : (Cond.instanceMethod yX12_known) ∈ BW := bw (tb7 123 (by decide +kernel)) (by decide +kernel)
theorem m_1564 : (Cond.selects "NoonValleyModel" yX12_known yX12_known) ∈ BW := bw (tb7 124 (by decide +kernel)) (by decide +kernel)
theorem vL_82 : LV RL 82 RX12 yX12_known cX12_known 4 (some .int) 3 := ⟨m_1562, m_1563, m_1564, m_12, m_1565, rfl, by decide, by decide, by decide +kernel⟩
theorem dL_law_756 : decode cL_law 756 = .ok (.invokevirtual 82, 3) := by decide +kernel
theorem dL_law_759 : decode cL_law 759 = .ok (.if_icmp .eq 1106, 3) := by decide +kernel
theorem dL_law_764 : decode cL_law 764 = .ok (.aload_n 1, 1) := by decide +kernel
theorem dL_law_765 : decode cL_law 765 = .ok (.aload_n 0, 1) := by decide +kernel
theorem dL_law_766 : decode cL_law 766 = .ok (.iload 4, 2) := by decide +kernel
theorem dL_law_768 : decode cL_law 768 = .ok (.iconst 1, 1) := by decide +kernel
theorem dL_law_769 : decode cL_law 769 = .ok (.iadd, 1) := by decide +kernel
theorem dL_law_770 : decode cL_law 770 = .ok (.iaload, 1) := by decide +kernel
theorem dL_law_771 : decode cL_law 771 = .ok (.aload_n 0, 1) := by decide +kernel
theorem dL_law_772 : decode cL_law 772 = .ok (.iload 4, 2) := by decide +kernel
theorem dL_law_774 : decode cL_law 774 = .ok (.iconst 2, 1) := by decide +kernel
theorem dL_law_775 : decode cL_law 775 = .ok (.iadd, 1) := by decide +kernel
theorem dL_law_776 : decode cL_law 776 = .ok (.iaload, 1) := by decide +kernel
theorem dL_law_777 : decode cL_law 777 = .ok (.aload_n 0, 1) := by decide +kernel
theorem dL_law_778 : decode cL_law 778 = .ok (.iload 4, 2) := by decide +kernel
theorem dL_law_780 : decode cL_law 780 = .ok (.iconst 3, 1) := by decide +kernel
theorem dL_law_781 : decode cL_law 781 = .ok (.iadd, 1) := by decide +kernel
theorem dL_law_782 : decode cL_law 782 = .ok (.iaload, 1) := by decide +kernel
theorem m_670 : (Cond.methodLink "NoonValleyLaw" 83 yX11_together) ∈ BW := bw (tb3 190 (by decide +kernel)) (by decide +kernel)
theorem m_671 : (Cond.instanceMethod yX11_together) ∈ BW := bw (tb3 191 (by decide +kernel)) (by decide +kernel)
theorem m_672 : (Cond.selects "NoonValley" yX11_together yX11_together) ∈ BW := bw (tb3 192 (by decide +kernel)) (by decide +kernel)
theorem vL_83 : LV RL 83 RX11 yX11_together cX11_together 7 (some .int) 3 := ⟨m_670, m_671, m_672, m_1, m_673, rfl, by decide, by decide, by decide +kernel⟩
theorem dL_law_783 : decode cL_law 783 = .ok (.invokevirtual 83, 3) := by decide +kernel
theorem dL_law_786 : decode cL_law 786 = .ok (.aload_n 2, 1) := by decide +kernel
theorem dL_law_787 : decode cL_law 787 = .ok (.aload_n 0, 1) := by decide +kernel
theorem dL_law_788 : decode cL_law 788 = .ok (.iload 4, 2) := by decide +kernel
theorem dL_law_790 : decode cL_law 790 = .ok (.iconst 1, 1) := by decide +kernel
theorem dL_law_791 : decode cL_law 791 = .ok (.iadd, 1) := by decide +kernel
theorem dL_law_792 : decode cL_law 792 = .ok (.iaload, 1) := by decide +kernel
theorem dL_law_793 : decode cL_law 793 = .ok (.aload_n 0, 1) := by decide +kernel
theorem dL_law_794 : decode cL_law 794 = .ok (.iload 4, 2) := by decide +kernel
theorem dL_law_796 : decode cL_law 796 = .ok (.iconst 2, 1) := by decide +kernel
theorem dL_law_797 : decode cL_law 797 = .ok (.iadd, 1) := by decide +kernel
theorem dL_law_798 : decode cL_law 798 = .ok (.iaload, 1) := by decide +kernel
theorem dL_law_799 : decode cL_law 799 = .ok (.aload_n 0, 1) := by decide +kernel
theorem dL_law_800 : decode cL_law 800 = .ok (.iload 4, 2) := by decide +kernel
theorem dL_law_802 : decode cL_law 802 = .ok (.iconst 3, 1) := by decide +kernel
theorem dL_law_803 : decode cL_law 803 = .ok (.iadd, 1) := by decide +kernel
theorem dL_law_804 : decode cL_law 804 = .ok (.iaload, 1) := by decide +kernel
theorem m_1582 : (Cond.methodLink "NoonValleyLaw" 86 yX12_together) ∈ BW := bw (tb7 142 (by decide +kernel)) (by decide +kernel)
theorem m_1583 : (Cond.instanceMethod yX12_together) ∈ BW := bw (tb7 143 (by decide +kernel)) (by decide +kernel)
theorem m_1584 : (Cond.selects "NoonValleyModel" yX12_together yX12_together) ∈ BW := bw (tb7 144 (by decide +kernel)) (by decide +kernel)
theorem vL_86 : LV RL 86 RX12 yX12_together cX12_together 6 (some .int) 3 := ⟨m_1582, m_1583, m_1584, m_12, m_1585, rfl, by decide, by decide, by decide +kernel⟩
theorem dL_law_805 : decode cL_law 805 = .ok (.invokevirtual 86, 3) := by decide +kernel
theorem dL_law_808 : decode cL_law 808 = .ok (.if_icmp .eq 1057, 3) := by decide +kernel
theorem dL_law_813 : decode cL_law 813 = .ok (.aload_n 1, 1) := by decide +kernel
theorem dL_law_814 : decode cL_law 814 = .ok (.aload_n 0, 1) := by decide +kernel
theorem dL_law_815 : decode cL_law 815 = .ok (.iload 4, 2) := by decide +kernel
theorem dL_law_817 : decode cL_law 817 = .ok (.iconst 1, 1) := by decide +kernel
theorem dL_law_818 : decode cL_law 818 = .ok (.iadd, 1) := by decide +kernel
theorem dL_law_819 : decode cL_law 819 = .ok (.iaload, 1) := by decide +kernel
theorem dL_law_820 : decode cL_law 820 = .ok (.aload_n 0, 1) := by decide +kernel
theorem dL_law_821 : decode cL_law 821 = .ok (.iload 4, 2) := by decide +kernel
theorem dL_law_823 : decode cL_law 823 = .ok (.iconst 2, 1) := by decide +kernel
theorem dL_law_824 : decode cL_law 824 = .ok (.iadd, 1) := by decide +kernel
theorem dL_law_825 : decode cL_law 825 = .ok (.iaload, 1) := by decide +kernel
theorem m_678 : (Cond.methodLink "NoonValleyLaw" 87 yX11_when) ∈ BW := bw (tb3 198 (by decide +kernel)) (by decide +kernel)
theorem m_679 : (Cond.instanceMethod yX11_when) ∈ BW := bw (tb3 199 (by decide +kernel)) (by decide +kernel)
theorem m_680 : (Cond.selects "NoonValley" yX11_when yX11_when) ∈ BW := bw (tb3 200 (by decide +kernel)) (by decide +kernel)
theorem vL_87 : LV RL 87 RX11 yX11_when cX11_when 5 (some .int) 2 := ⟨m_678, m_679, m_680, m_1, m_681, rfl, by decide, by decide, by decide +kernel⟩
theorem dL_law_826 : decode cL_law 826 = .ok (.invokevirtual 87, 3) := by decide +kernel
theorem dL_law_829 : decode cL_law 829 = .ok (.aload_n 2, 1) := by decide +kernel
theorem dL_law_830 : decode cL_law 830 = .ok (.aload_n 0, 1) := by decide +kernel
theorem dL_law_831 : decode cL_law 831 = .ok (.iload 4, 2) := by decide +kernel
theorem dL_law_833 : decode cL_law 833 = .ok (.iconst 1, 1) := by decide +kernel
theorem dL_law_834 : decode cL_law 834 = .ok (.iadd, 1) := by decide +kernel
theorem dL_law_835 : decode cL_law 835 = .ok (.iaload, 1) := by decide +kernel
theorem dL_law_836 : decode cL_law 836 = .ok (.aload_n 0, 1) := by decide +kernel
theorem dL_law_837 : decode cL_law 837 = .ok (.iload 4, 2) := by decide +kernel
theorem dL_law_839 : decode cL_law 839 = .ok (.iconst 2, 1) := by decide +kernel
theorem dL_law_840 : decode cL_law 840 = .ok (.iadd, 1) := by decide +kernel
theorem dL_law_841 : decode cL_law 841 = .ok (.iaload, 1) := by decide +kernel
theorem m_1590 : (Cond.methodLink "NoonValleyLaw" 90 yX12_when) ∈ BW := bw (tb7 150 (by decide +kernel)) (by decide +kernel)
theorem m_1591 : (Cond.instanceMethod yX12_when) ∈ BW := bw (tb7 151 (by decide +kernel)) (by decide +kernel)
theorem m_1592 : (Cond.selects "NoonValleyModel" yX12_when yX12_when) ∈ BW := bw (tb7 152 (by decide +kernel)) (by decide +kernel)
theorem vL_90 : LV RL 90 RX12 yX12_when cX12_when 6 (some .int) 2 := ⟨m_1590, m_1591, m_1592, m_12, m_1593, rfl, by decide, by decide, by decide +kernel⟩
theorem dL_law_842 : decode cL_law 842 = .ok (.invokevirtual 90, 3) := by decide +kernel
theorem dL_law_845 : decode cL_law 845 = .ok (.if_icmp .eq 1020, 3) := by decide +kernel
theorem dL_law_850 : decode cL_law 850 = .ok (.aload_n 1, 1) := by decide +kernel
theorem dL_law_851 : decode cL_law 851 = .ok (.aload_n 0, 1) := by decide +kernel
theorem dL_law_852 : decode cL_law 852 = .ok (.iload 4, 2) := by decide +kernel
theorem dL_law_854 : decode cL_law 854 = .ok (.iconst 1, 1) := by decide +kernel
theorem dL_law_855 : decode cL_law 855 = .ok (.iadd, 1) := by decide +kernel
theorem dL_law_856 : decode cL_law 856 = .ok (.iaload, 1) := by decide +kernel
theorem dL_law_857 : decode cL_law 857 = .ok (.aload_n 0, 1) := by decide +kernel
theorem dL_law_858 : decode cL_law 858 = .ok (.iload 4, 2) := by decide +kernel
theorem dL_law_860 : decode cL_law 860 = .ok (.iconst 2, 1) := by decide +kernel
theorem dL_law_861 : decode cL_law 861 = .ok (.iadd, 1) := by decide +kernel
theorem dL_law_862 : decode cL_law 862 = .ok (.iaload, 1) := by decide +kernel
theorem dL_law_863 : decode cL_law 863 = .ok (.aload_n 0, 1) := by decide +kernel
theorem dL_law_864 : decode cL_law 864 = .ok (.iload 4, 2) := by decide +kernel
theorem dL_law_866 : decode cL_law 866 = .ok (.iconst 3, 1) := by decide +kernel
theorem dL_law_867 : decode cL_law 867 = .ok (.iadd, 1) := by decide +kernel
theorem dL_law_868 : decode cL_law 868 = .ok (.iaload, 1) := by decide +kernel
theorem m_690 : (Cond.methodLink "NoonValleyLaw" 91 yX11_least) ∈ BW := bw (tb3 210 (by decide +kernel)) (by decide +kernel)
theorem m_691 : (Cond.instanceMethod yX11_least) ∈ BW := bw (tb3 211 (by decide +kernel)) (by decide +kernel)
theorem m_692 : (Cond.selects "NoonValley" yX11_least yX11_least) ∈ BW := bw (tb3 212 (by decide +kernel)) (by decide +kernel)
theorem vL_91 : LV RL 91 RX11 yX11_least cX11_least 5 (some .int) 3 := ⟨m_690, m_691, m_692, m_1, m_693, rfl, by decide, by decide, by decide +kernel⟩
theorem dL_law_869 : decode cL_law 869 = .ok (.invokevirtual 91, 3) := by decide +kernel
theorem dL_law_872 : decode cL_law 872 = .ok (.aload_n 2, 1) := by decide +kernel
theorem dL_law_873 : decode cL_law 873 = .ok (.aload_n 0, 1) := by decide +kernel
theorem dL_law_874 : decode cL_law 874 = .ok (.iload 4, 2) := by decide +kernel
theorem dL_law_876 : decode cL_law 876 = .ok (.iconst 1, 1) := by decide +kernel
theorem dL_law_877 : decode cL_law 877 = .ok (.iadd, 1) := by decide +kernel
theorem dL_law_878 : decode cL_law 878 = .ok (.iaload, 1) := by decide +kernel
theorem dL_law_879 : decode cL_law 879 = .ok (.aload_n 0, 1) := by decide +kernel
theorem dL_law_880 : decode cL_law 880 = .ok (.iload 4, 2) := by decide +kernel
theorem dL_law_882 : decode cL_law 882 = .ok (.iconst 2, 1) := by decide +kernel
theorem dL_law_883 : decode cL_law 883 = .ok (.iadd, 1) := by decide +kernel
theorem dL_law_884 : decode cL_law 884 = .ok (.iaload, 1) := by decide +kernel
theorem dL_law_885 : decode cL_law 885 = .ok (.aload_n 0, 1) := by decide +kernel
theorem dL_law_886 : decode cL_law 886 = .ok (.iload 4, 2) := by decide +kernel
theorem dL_law_888 : decode cL_law 888 = .ok (.iconst 3, 1) := by decide +kernel
theorem dL_law_889 : decode cL_law 889 = .ok (.iadd, 1) := by decide +kernel
theorem dL_law_890 : decode cL_law 890 = .ok (.iaload, 1) := by decide +kernel
theorem m_1602 : (Cond.methodLink "NoonValleyLaw" 94 yX12_least) ∈ BW := bw (tb7 162 (by decide +kernel)) (by decide +kernel)
theorem m_1603 : (Cond.instanceMethod yX12_least) ∈ BW := bw (tb7 163 (by decide +kernel)) (by decide +kernel)
theorem m_1604 : (Cond.selects "NoonValleyModel" yX12_least yX12_least) ∈ BW := bw (tb7 164 (by decide +kernel)) (by decide +kernel)
theorem vL_94 : LV RL 94 RX12 yX12_least cX12_least 5 (some .int) 3 := ⟨m_1602, m_1603, m_1604, m_12, m_1605, rfl, by decide, by decide, by decide +kernel⟩
theorem dL_law_891 : decode cL_law 891 = .ok (.invokevirtual 94, 3) := by decide +kernel
theorem dL_law_894 : decode cL_law 894 = .ok (.if_icmp .eq 971, 3) := by decide +kernel
theorem dL_law_899 : decode cL_law 899 = .ok (.aload_n 1, 1) := by decide +kernel
theorem dL_law_900 : decode cL_law 900 = .ok (.aload_n 0, 1) := by decide +kernel
theorem dL_law_901 : decode cL_law 901 = .ok (.iload 4, 2) := by decide +kernel
theorem dL_law_903 : decode cL_law 903 = .ok (.iconst 1, 1) := by decide +kernel
theorem dL_law_904 : decode cL_law 904 = .ok (.iadd, 1) := by decide +kernel
theorem dL_law_905 : decode cL_law 905 = .ok (.iaload, 1) := by decide +kernel
theorem dL_law_906 : decode cL_law 906 = .ok (.aload_n 0, 1) := by decide +kernel
theorem dL_law_907 : decode cL_law 907 = .ok (.iload 4, 2) := by decide +kernel
theorem dL_law_909 : decode cL_law 909 = .ok (.iconst 2, 1) := by decide +kernel
theorem dL_law_910 : decode cL_law 910 = .ok (.iadd, 1) := by decide +kernel
theorem dL_law_911 : decode cL_law 911 = .ok (.iaload, 1) := by decide +kernel
theorem dL_law_912 : decode cL_law 912 = .ok (.aload_n 0, 1) := by decide +kernel
theorem dL_law_913 : decode cL_law 913 = .ok (.iload 4, 2) := by decide +kernel
theorem dL_law_915 : decode cL_law 915 = .ok (.iconst 3, 1) := by decide +kernel
theorem dL_law_916 : decode cL_law 916 = .ok (.iadd, 1) := by decide +kernel
theorem dL_law_917 : decode cL_law 917 = .ok (.iaload, 1) := by decide +kernel
theorem dL_law_918 : decode cL_law 918 = .ok (.aload_n 0, 1) := by decide +kernel
theorem dL_law_919 : decode cL_law 919 = .ok (.iload 4, 2) := by decide +kernel
theorem dL_law_921 : decode cL_law 921 = .ok (.iconst 4, 1) := by decide +kernel
theorem dL_law_922 : decode cL_law 922 = .ok (.iadd, 1) := by decide +kernel
theorem dL_law_923 : decode cL_law 923 = .ok (.iaload, 1) := by decide +kernel
theorem dL_law_924 : decode cL_law 924 = .ok (.aload_n 0, 1) := by decide +kernel
theorem dL_law_925 : decode cL_law 925 = .ok (.iload 4, 2) := by decide +kernel
theorem dL_law_927 : decode cL_law 927 = .ok (.iconst 5, 1) := by decide +kernel
theorem dL_law_928 : decode cL_law 928 = .ok (.iadd, 1) := by decide +kernel
theorem dL_law_929 : decode cL_law 929 = .ok (.iaload, 1) := by decide +kernel
theorem m_781 : (Cond.methodLink "NoonValleyLaw" 95 yX11_found) ∈ BW := bw (tb4 61 (by decide +kernel)) (by decide +kernel)
theorem m_782 : (Cond.instanceMethod yX11_found) ∈ BW := bw (tb4 62 (by decide +kernel)) (by decide +kernel)
theorem m_783 : (Cond.selects "NoonValley" yX11_found yX11_found) ∈ BW := bw (tb4 63 (by decide +kernel)) (by decide +kernel)
theorem vL_95 : LV RL 95 RX11 yX11_found cX11_found 8 (some .int) 5 := ⟨m_781, m_782, m_783, m_1, m_784, rfl, by decide, by decide, by decide +kernel⟩
theorem dL_law_930 : decode cL_law 930 = .ok (.invokevirtual 95, 3) := by decide +kernel
theorem dL_law_933 : decode cL_law 933 = .ok (.aload_n 2, 1) := by decide +kernel
theorem dL_law_934 : decode cL_law 934 = .ok (.aload_n 0, 1) := by decide +kernel
theorem dL_law_935 : decode cL_law 935 = .ok (.iload 4, 2) := by decide +kernel
theorem dL_law_937 : decode cL_law 937 = .ok (.iconst 1, 1) := by decide +kernel
theorem dL_law_938 : decode cL_law 938 = .ok (.iadd, 1) := by decide +kernel
theorem dL_law_939 : decode cL_law 939 = .ok (.iaload, 1) := by decide +kernel
theorem dL_law_940 : decode cL_law 940 = .ok (.aload_n 0, 1) := by decide +kernel
theorem dL_law_941 : decode cL_law 941 = .ok (.iload 4, 2) := by decide +kernel
theorem dL_law_943 : decode cL_law 943 = .ok (.iconst 2, 1) := by decide +kernel
theorem dL_law_944 : decode cL_law 944 = .ok (.iadd, 1) := by decide +kernel
theorem dL_law_945 : decode cL_law 945 = .ok (.iaload, 1) := by decide +kernel
theorem dL_law_946 : decode cL_law 946 = .ok (.aload_n 0, 1) := by decide +kernel
theorem dL_law_947 : decode cL_law 947 = .ok (.iload 4, 2) := by decide +kernel
theorem dL_law_949 : decode cL_law 949 = .ok (.iconst 3, 1) := by decide +kernel
theorem dL_law_950 : decode cL_law 950 = .ok (.iadd, 1) := by decide +kernel
theorem dL_law_951 : decode cL_law 951 = .ok (.iaload, 1) := by decide +kernel
theorem dL_law_952 : decode cL_law 952 = .ok (.aload_n 0, 1) := by decide +kernel
theorem dL_law_953 : decode cL_law 953 = .ok (.iload 4, 2) := by decide +kernel
theorem dL_law_955 : decode cL_law 955 = .ok (.iconst 4, 1) := by decide +kernel
theorem dL_law_956 : decode cL_law 956 = .ok (.iadd, 1) := by decide +kernel
theorem dL_law_957 : decode cL_law 957 = .ok (.iaload, 1) := by decide +kernel
theorem dL_law_958 : decode cL_law 958 = .ok (.aload_n 0, 1) := by decide +kernel
theorem dL_law_959 : decode cL_law 959 = .ok (.iload 4, 2) := by decide +kernel
theorem dL_law_961 : decode cL_law 961 = .ok (.iconst 5, 1) := by decide +kernel
theorem dL_law_962 : decode cL_law 962 = .ok (.iadd, 1) := by decide +kernel
theorem dL_law_963 : decode cL_law 963 = .ok (.iaload, 1) := by decide +kernel
theorem m_1634 : (Cond.methodLink "NoonValleyLaw" 98 yX12_found) ∈ BW := bw (tb7 194 (by decide +kernel)) (by decide +kernel)
theorem m_1635 : (Cond.instanceMethod yX12_found) ∈ BW := bw (tb7 195 (by decide +kernel)) (by decide +kernel)
theorem m_1636 : (Cond.selects "NoonValleyModel" yX12_found yX12_found) ∈ BW := bw (tb7 196 (by decide +kernel)) (by decide +kernel)
theorem vL_98 : LV RL 98 RX12 yX12_found cX12_found 11 (some .int) 5 := ⟨m_1634, m_1635, m_1636, m_12, m_1637, rfl, by decide, by decide, by decide +kernel⟩
theorem dL_law_964 : decode cL_law 964 = .ok (.invokevirtual 98, 3) := by decide +kernel
theorem dL_law_967 : decode cL_law 967 = .ok (.if_icmp .eq 898, 3) := by decide +kernel
theorem dL_law_972 : decode cL_law 972 = .ok (.aload_n 1, 1) := by decide +kernel
theorem dL_law_973 : decode cL_law 973 = .ok (.aload_n 0, 1) := by decide +kernel
theorem dL_law_974 : decode cL_law 974 = .ok (.iload 4, 2) := by decide +kernel
theorem dL_law_976 : decode cL_law 976 = .ok (.iconst 1, 1) := by decide +kernel
theorem dL_law_977 : decode cL_law 977 = .ok (.iadd, 1) := by decide +kernel
theorem dL_law_978 : decode cL_law 978 = .ok (.iaload, 1) := by decide +kernel
theorem dL_law_979 : decode cL_law 979 = .ok (.aload_n 0, 1) := by decide +kernel
theorem dL_law_980 : decode cL_law 980 = .ok (.iload 4, 2) := by decide +kernel
theorem dL_law_982 : decode cL_law 982 = .ok (.iconst 2, 1) := by decide +kernel
theorem dL_law_983 : decode cL_law 983 = .ok (.iadd, 1) := by decide +kernel
theorem dL_law_984 : decode cL_law 984 = .ok (.iaload, 1) := by decide +kernel
theorem dL_law_985 : decode cL_law 985 = .ok (.aload_n 0, 1) := by decide +kernel
theorem dL_law_986 : decode cL_law 986 = .ok (.iload 4, 2) := by decide +kernel
theorem dL_law_988 : decode cL_law 988 = .ok (.iconst 3, 1) := by decide +kernel
theorem dL_law_989 : decode cL_law 989 = .ok (.iadd, 1) := by decide +kernel
theorem dL_law_990 : decode cL_law 990 = .ok (.iaload, 1) := by decide +kernel
theorem dL_law_991 : decode cL_law 991 = .ok (.aload_n 0, 1) := by decide +kernel
theorem dL_law_992 : decode cL_law 992 = .ok (.iload 4, 2) := by decide +kernel
theorem dL_law_994 : decode cL_law 994 = .ok (.iconst 4, 1) := by decide +kernel
theorem dL_law_995 : decode cL_law 995 = .ok (.iadd, 1) := by decide +kernel
theorem dL_law_996 : decode cL_law 996 = .ok (.iaload, 1) := by decide +kernel
theorem m_801 : (Cond.methodLink "NoonValleyLaw" 99 yX11_reach) ∈ BW := bw (tb4 81 (by decide +kernel)) (by decide +kernel)
theorem m_802 : (Cond.instanceMethod yX11_reach) ∈ BW := bw (tb4 82 (by decide +kernel)) (by decide +kernel)
theorem m_803 : (Cond.selects "NoonValley" yX11_reach yX11_reach) ∈ BW := bw (tb4 83 (by decide +kernel)) (by decide +kernel)
theorem vL_99 : LV RL 99 RX11 yX11_reach cX11_reach 6 (some .int) 4 := ⟨m_801, m_802, m_803, m_1, m_804, rfl, by decide, by decide, by decide +kernel⟩
theorem dL_law_997 : decode cL_law 997 = .ok (.invokevirtual 99, 3) := by decide +kernel
theorem dL_law_1000 : decode cL_law 1000 = .ok (.aload_n 2, 1) := by decide +kernel
theorem dL_law_1001 : decode cL_law 1001 = .ok (.aload_n 0, 1) := by decide +kernel
theorem dL_law_1002 : decode cL_law 1002 = .ok (.iload 4, 2) := by decide +kernel
theorem dL_law_1004 : decode cL_law 1004 = .ok (.iconst 1, 1) := by decide +kernel
theorem dL_law_1005 : decode cL_law 1005 = .ok (.iadd, 1) := by decide +kernel
theorem dL_law_1006 : decode cL_law 1006 = .ok (.iaload, 1) := by decide +kernel
theorem dL_law_1007 : decode cL_law 1007 = .ok (.aload_n 0, 1) := by decide +kernel
theorem dL_law_1008 : decode cL_law 1008 = .ok (.iload 4, 2) := by decide +kernel
theorem dL_law_1010 : decode cL_law 1010 = .ok (.iconst 2, 1) := by decide +kernel
theorem dL_law_1011 : decode cL_law 1011 = .ok (.iadd, 1) := by decide +kernel
theorem dL_law_1012 : decode cL_law 1012 = .ok (.iaload, 1) := by decide +kernel
theorem dL_law_1013 : decode cL_law 1013 = .ok (.aload_n 0, 1) := by decide +kernel
theorem dL_law_1014 : decode cL_law 1014 = .ok (.iload 4, 2) := by decide +kernel
theorem dL_law_1016 : decode cL_law 1016 = .ok (.iconst 3, 1) := by decide +kernel
theorem dL_law_1017 : decode cL_law 1017 = .ok (.iadd, 1) := by decide +kernel
theorem dL_law_1018 : decode cL_law 1018 = .ok (.iaload, 1) := by decide +kernel
theorem dL_law_1019 : decode cL_law 1019 = .ok (.aload_n 0, 1) := by decide +kernel
theorem dL_law_1020 : decode cL_law 1020 = .ok (.iload 4, 2) := by decide +kernel
theorem dL_law_1022 : decode cL_law 1022 = .ok (.iconst 4, 1) := by decide +kernel
theorem dL_law_1023 : decode cL_law 1023 = .ok (.iadd, 1) := by decide +kernel
theorem dL_law_1024 : decode cL_law 1024 = .ok (.iaload, 1) := by decide +kernel
theorem m_1654 : (Cond.methodLink "NoonValleyLaw" 102 yX12_reach) ∈ BW := bw (tb7 214 (by decide +kernel)) (by decide +kernel)
theorem m_1655 : (Cond.instanceMethod yX12_reach) ∈ BW := bw (tb7 215 (by decide +kernel)) (by decide +kernel)
theorem m_1656 : (Cond.selects "NoonValleyModel" yX12_reach yX12_reach) ∈ BW := bw (tb7 216 (by decide +kernel)) (by decide +kernel)
theorem vL_102 : LV RL 102 RX12 yX12_reach cX12_reach 9 (some .int) 4 := ⟨m_1654, m_1655, m_1656, m_12, m_1657, rfl, by decide, by decide, by decide +kernel⟩
theorem dL_law_1025 : decode cL_law 1025 = .ok (.invokevirtual 102, 3) := by decide +kernel
theorem dL_law_1028 : decode cL_law 1028 = .ok (.if_icmp .eq 837, 3) := by decide +kernel
theorem dL_law_1033 : decode cL_law 1033 = .ok (.aload_n 1, 1) := by decide +kernel
theorem dL_law_1034 : decode cL_law 1034 = .ok (.aload_n 0, 1) := by decide +kernel
theorem dL_law_1035 : decode cL_law 1035 = .ok (.iload 4, 2) := by decide +kernel
theorem dL_law_1037 : decode cL_law 1037 = .ok (.iconst 1, 1) := by decide +kernel
theorem dL_law_1038 : decode cL_law 1038 = .ok (.iadd, 1) := by decide +kernel
theorem dL_law_1039 : decode cL_law 1039 = .ok (.iaload, 1) := by decide +kernel
theorem dL_law_1040 : decode cL_law 1040 = .ok (.aload_n 0, 1) := by decide +kernel
theorem dL_law_1041 : decode cL_law 1041 = .ok (.iload 4, 2) := by decide +kernel
theorem dL_law_1043 : decode cL_law 1043 = .ok (.iconst 2, 1) := by decide +kernel
theorem dL_law_1044 : decode cL_law 1044 = .ok (.iadd, 1) := by decide +kernel
theorem dL_law_1045 : decode cL_law 1045 = .ok (.iaload, 1) := by decide +kernel
theorem dL_law_1046 : decode cL_law 1046 = .ok (.aload_n 0, 1) := by decide +kernel
theorem dL_law_1047 : decode cL_law 1047 = .ok (.iload 4, 2) := by decide +kernel
theorem dL_law_1049 : decode cL_law 1049 = .ok (.iconst 3, 1) := by decide +kernel
theorem dL_law_1050 : decode cL_law 1050 = .ok (.iadd, 1) := by decide +kernel
theorem dL_law_1051 : decode cL_law 1051 = .ok (.iaload, 1) := by decide +kernel
theorem m_818 : (Cond.methodLink "NoonValleyLaw" 103 yX11_from) ∈ BW := bw (tb4 98 (by decide +kernel)) (by decide +kernel)
theorem m_819 : (Cond.instanceMethod yX11_from) ∈ BW := bw (tb4 99 (by decide +kernel)) (by decide +kernel)
theorem m_820 : (Cond.selects "NoonValley" yX11_from yX11_from) ∈ BW := bw (tb4 100 (by decide +kernel)) (by decide +kernel)
theorem vL_103 : LV RL 103 RX11 yX11_from cX11_from 5 (some .int) 3 := ⟨m_818, m_819, m_820, m_1, m_821, rfl, by decide, by decide, by decide +kernel⟩
theorem dL_law_1052 : decode cL_law 1052 = .ok (.invokevirtual 103, 3) := by decide +kernel
theorem dL_law_1055 : decode cL_law 1055 = .ok (.aload_n 2, 1) := by decide +kernel
theorem dL_law_1056 : decode cL_law 1056 = .ok (.aload_n 0, 1) := by decide +kernel
theorem dL_law_1057 : decode cL_law 1057 = .ok (.iload 4, 2) := by decide +kernel
theorem dL_law_1059 : decode cL_law 1059 = .ok (.iconst 1, 1) := by decide +kernel
theorem dL_law_1060 : decode cL_law 1060 = .ok (.iadd, 1) := by decide +kernel
theorem dL_law_1061 : decode cL_law 1061 = .ok (.iaload, 1) := by decide +kernel
theorem dL_law_1062 : decode cL_law 1062 = .ok (.aload_n 0, 1) := by decide +kernel
theorem dL_law_1063 : decode cL_law 1063 = .ok (.iload 4, 2) := by decide +kernel
theorem dL_law_1065 : decode cL_law 1065 = .ok (.iconst 2, 1) := by decide +kernel
theorem dL_law_1066 : decode cL_law 1066 = .ok (.iadd, 1) := by decide +kernel
theorem dL_law_1067 : decode cL_law 1067 = .ok (.iaload, 1) := by decide +kernel
theorem dL_law_1068 : decode cL_law 1068 = .ok (.aload_n 0, 1) := by decide +kernel
theorem dL_law_1069 : decode cL_law 1069 = .ok (.iload 4, 2) := by decide +kernel
theorem dL_law_1071 : decode cL_law 1071 = .ok (.iconst 3, 1) := by decide +kernel
theorem dL_law_1072 : decode cL_law 1072 = .ok (.iadd, 1) := by decide +kernel
theorem dL_law_1073 : decode cL_law 1073 = .ok (.iaload, 1) := by decide +kernel
theorem m_1642 : (Cond.methodLink "NoonValleyLaw" 106 yX12_from) ∈ BW := bw (tb7 202 (by decide +kernel)) (by decide +kernel)
theorem m_1643 : (Cond.instanceMethod yX12_from) ∈ BW := bw (tb7 203 (by decide +kernel)) (by decide +kernel)
theorem m_1644 : (Cond.selects "NoonValleyModel" yX12_from yX12_from) ∈ BW := bw (tb7 204 (by decide +kernel)) (by decide +kernel)
theorem vL_106 : LV RL 106 RX12 yX12_from cX12_from 8 (some .int) 3 := ⟨m_1642, m_1643, m_1644, m_12, m_1645, rfl, by decide, by decide, by decide +kernel⟩
theorem dL_law_1074 : decode cL_law 1074 = .ok (.invokevirtual 106, 3) := by decide +kernel
theorem dL_law_1077 : decode cL_law 1077 = .ok (.if_icmp .eq 788, 3) := by decide +kernel
theorem dL_law_1082 : decode cL_law 1082 = .ok (.aload_n 1, 1) := by decide +kernel
theorem dL_law_1083 : decode cL_law 1083 = .ok (.aload_n 0, 1) := by decide +kernel
theorem dL_law_1084 : decode cL_law 1084 = .ok (.iload 4, 2) := by decide +kernel
theorem dL_law_1086 : decode cL_law 1086 = .ok (.iconst 1, 1) := by decide +kernel
theorem dL_law_1087 : decode cL_law 1087 = .ok (.iadd, 1) := by decide +kernel
theorem dL_law_1088 : decode cL_law 1088 = .ok (.iaload, 1) := by decide +kernel
theorem dL_law_1089 : decode cL_law 1089 = .ok (.aload_n 0, 1) := by decide +kernel
theorem dL_law_1090 : decode cL_law 1090 = .ok (.iload 4, 2) := by decide +kernel
theorem dL_law_1092 : decode cL_law 1092 = .ok (.iconst 2, 1) := by decide +kernel
theorem dL_law_1093 : decode cL_law 1093 = .ok (.iadd, 1) := by decide +kernel
theorem dL_law_1094 : decode cL_law 1094 = .ok (.iaload, 1) := by decide +kernel
theorem dL_law_1095 : decode cL_law 1095 = .ok (.aload_n 0, 1) := by decide +kernel
theorem dL_law_1096 : decode cL_law 1096 = .ok (.iload 4, 2) := by decide +kernel
theorem dL_law_1098 : decode cL_law 1098 = .ok (.iconst 3, 1) := by decide +kernel
theorem dL_law_1099 : decode cL_law 1099 = .ok (.iadd, 1) := by decide +kernel
theorem dL_law_1100 : decode cL_law 1100 = .ok (.iaload, 1) := by decide +kernel
theorem m_833 : (Cond.methodLink "NoonValleyLaw" 107 yX11_added) ∈ BW := bw (tb4 113 (by decide +kernel)) (by decide +kernel)
theorem m_834 : (Cond.instanceMethod yX11_added) ∈ BW := bw (tb4 114 (by decide +kernel)) (by decide +kernel)
theorem m_835 : (Cond.selects "NoonValley" yX11_added yX11_added) ∈ BW := bw (tb4 115 (by decide +kernel)) (by decide +kernel)
theorem vL_107 : LV RL 107 RX11 yX11_added cX11_added 5 (some .int) 3 := ⟨m_833, m_834, m_835, m_1, m_836, rfl, by decide, by decide, by decide +kernel⟩
theorem dL_law_1101 : decode cL_law 1101 = .ok (.invokevirtual 107, 3) := by decide +kernel
theorem dL_law_1104 : decode cL_law 1104 = .ok (.aload_n 2, 1) := by decide +kernel
theorem dL_law_1105 : decode cL_law 1105 = .ok (.aload_n 0, 1) := by decide +kernel
theorem dL_law_1106 : decode cL_law 1106 = .ok (.iload 4, 2) := by decide +kernel
theorem dL_law_1108 : decode cL_law 1108 = .ok (.iconst 1, 1) := by decide +kernel
theorem dL_law_1109 : decode cL_law 1109 = .ok (.iadd, 1) := by decide +kernel
theorem dL_law_1110 : decode cL_law 1110 = .ok (.iaload, 1) := by decide +kernel
theorem dL_law_1111 : decode cL_law 1111 = .ok (.aload_n 0, 1) := by decide +kernel
theorem dL_law_1112 : decode cL_law 1112 = .ok (.iload 4, 2) := by decide +kernel
theorem dL_law_1114 : decode cL_law 1114 = .ok (.iconst 2, 1) := by decide +kernel
theorem dL_law_1115 : decode cL_law 1115 = .ok (.iadd, 1) := by decide +kernel
theorem dL_law_1116 : decode cL_law 1116 = .ok (.iaload, 1) := by decide +kernel
theorem dL_law_1117 : decode cL_law 1117 = .ok (.aload_n 0, 1) := by decide +kernel
theorem dL_law_1118 : decode cL_law 1118 = .ok (.iload 4, 2) := by decide +kernel
theorem dL_law_1120 : decode cL_law 1120 = .ok (.iconst 3, 1) := by decide +kernel
theorem dL_law_1121 : decode cL_law 1121 = .ok (.iadd, 1) := by decide +kernel
theorem dL_law_1122 : decode cL_law 1122 = .ok (.iaload, 1) := by decide +kernel
theorem m_1646 : (Cond.methodLink "NoonValleyLaw" 110 yX12_added) ∈ BW := bw (tb7 206 (by decide +kernel)) (by decide +kernel)
theorem m_1647 : (Cond.instanceMethod yX12_added) ∈ BW := bw (tb7 207 (by decide +kernel)) (by decide +kernel)
theorem m_1648 : (Cond.selects "NoonValleyModel" yX12_added yX12_added) ∈ BW := bw (tb7 208 (by decide +kernel)) (by decide +kernel)
theorem vL_110 : LV RL 110 RX12 yX12_added cX12_added 11 (some .int) 3 := ⟨m_1646, m_1647, m_1648, m_12, m_1649, rfl, by decide, by decide, by decide +kernel⟩
theorem dL_law_1123 : decode cL_law 1123 = .ok (.invokevirtual 110, 3) := by decide +kernel
theorem dL_law_1126 : decode cL_law 1126 = .ok (.if_icmp .eq 739, 3) := by decide +kernel
theorem dL_law_1131 : decode cL_law 1131 = .ok (.aload_n 1, 1) := by decide +kernel
theorem dL_law_1132 : decode cL_law 1132 = .ok (.aload_n 0, 1) := by decide +kernel
theorem dL_law_1133 : decode cL_law 1133 = .ok (.iload 4, 2) := by decide +kernel
theorem dL_law_1135 : decode cL_law 1135 = .ok (.iconst 1, 1) := by decide +kernel
theorem dL_law_1136 : decode cL_law 1136 = .ok (.iadd, 1) := by decide +kernel
theorem dL_law_1137 : decode cL_law 1137 = .ok (.iaload, 1) := by decide +kernel
theorem dL_law_1138 : decode cL_law 1138 = .ok (.aload_n 0, 1) := by decide +kernel
theorem dL_law_1139 : decode cL_law 1139 = .ok (.iload 4, 2) := by decide +kernel
theorem dL_law_1141 : decode cL_law 1141 = .ok (.iconst 2, 1) := by decide +kernel
theorem dL_law_1142 : decode cL_law 1142 = .ok (.iadd, 1) := by decide +kernel
theorem dL_law_1143 : decode cL_law 1143 = .ok (.iaload, 1) := by decide +kernel
theorem dL_law_1144 : decode cL_law 1144 = .ok (.aload_n 0, 1) := by decide +kernel
theorem dL_law_1145 : decode cL_law 1145 = .ok (.iload 4, 2) := by decide +kernel
theorem dL_law_1147 : decode cL_law 1147 = .ok (.iconst 3, 1) := by decide +kernel
theorem dL_law_1148 : decode cL_law 1148 = .ok (.iadd, 1) := by decide +kernel
theorem dL_law_1149 : decode cL_law 1149 = .ok (.iaload, 1) := by decide +kernel
theorem dL_law_1150 : decode cL_law 1150 = .ok (.aload_n 0, 1) := by decide +kernel
theorem dL_law_1151 : decode cL_law 1151 = .ok (.iload 4, 2) := by decide +kernel
theorem dL_law_1153 : decode cL_law 1153 = .ok (.iconst 4, 1) := by decide +kernel
theorem dL_law_1154 : decode cL_law 1154 = .ok (.iadd, 1) := by decide +kernel
theorem dL_law_1155 : decode cL_law 1155 = .ok (.iaload, 1) := by decide +kernel
theorem m_854 : (Cond.methodLink "NoonValleyLaw" 111 yX11_shut) ∈ BW := bw (tb4 134 (by decide +kernel)) (by decide +kernel)
theorem m_855 : (Cond.instanceMethod yX11_shut) ∈ BW := bw (tb4 135 (by decide +kernel)) (by decide +kernel)
theorem m_856 : (Cond.selects "NoonValley" yX11_shut yX11_shut) ∈ BW := bw (tb4 136 (by decide +kernel)) (by decide +kernel)
theorem vL_111 : LV RL 111 RX11 yX11_shut cX11_shut 6 (some .int) 4 := ⟨m_854, m_855, m_856, m_1, m_857, rfl, by decide, by decide, by decide +kernel⟩
theorem dL_law_1156 : decode cL_law 1156 = .ok (.invokevirtual 111, 3) := by decide +kernel
theorem dL_law_1159 : decode cL_law 1159 = .ok (.aload_n 2, 1) := by decide +kernel
theorem dL_law_1160 : decode cL_law 1160 = .ok (.aload_n 0, 1) := by decide +kernel
theorem dL_law_1161 : decode cL_law 1161 = .ok (.iload 4, 2) := by decide +kernel
theorem dL_law_1163 : decode cL_law 1163 = .ok (.iconst 1, 1) := by decide +kernel
theorem dL_law_1164 : decode cL_law 1164 = .ok (.iadd, 1) := by decide +kernel
theorem dL_law_1165 : decode cL_law 1165 = .ok (.iaload, 1) := by decide +kernel
theorem dL_law_1166 : decode cL_law 1166 = .ok (.aload_n 0, 1) := by decide +kernel
theorem dL_law_1167 : decode cL_law 1167 = .ok (.iload 4, 2) := by decide +kernel
theorem dL_law_1169 : decode cL_law 1169 = .ok (.iconst 2, 1) := by decide +kernel
theorem dL_law_1170 : decode cL_law 1170 = .ok (.iadd, 1) := by decide +kernel
theorem dL_law_1171 : decode cL_law 1171 = .ok (.iaload, 1) := by decide +kernel
theorem dL_law_1172 : decode cL_law 1172 = .ok (.aload_n 0, 1) := by decide +kernel
theorem dL_law_1173 : decode cL_law 1173 = .ok (.iload 4, 2) := by decide +kernel
theorem dL_law_1175 : decode cL_law 1175 = .ok (.iconst 3, 1) := by decide +kernel
theorem dL_law_1176 : decode cL_law 1176 = .ok (.iadd, 1) := by decide +kernel
theorem dL_law_1177 : decode cL_law 1177 = .ok (.iaload, 1) := by decide +kernel
theorem dL_law_1178 : decode cL_law 1178 = .ok (.aload_n 0, 1) := by decide +kernel
theorem dL_law_1179 : decode cL_law 1179 = .ok (.iload 4, 2) := by decide +kernel
theorem dL_law_1181 : decode cL_law 1181 = .ok (.iconst 4, 1) := by decide +kernel
theorem dL_law_1182 : decode cL_law 1182 = .ok (.iadd, 1) := by decide +kernel
theorem dL_law_1183 : decode cL_law 1183 = .ok (.iaload, 1) := by decide +kernel
theorem m_1663 : (Cond.methodLink "NoonValleyLaw" 114 yX12_shut) ∈ BW := bw (tb7 223 (by decide +kernel)) (by decide +kernel)
theorem m_1664 : (Cond.instanceMethod yX12_shut) ∈ BW := bw (tb7 224 (by decide +kernel)) (by decide +kernel)
theorem m_1665 : (Cond.selects "NoonValleyModel" yX12_shut yX12_shut) ∈ BW := bw (tb7 225 (by decide +kernel)) (by decide +kernel)
theorem vL_114 : LV RL 114 RX12 yX12_shut cX12_shut 9 (some .int) 4 := ⟨m_1663, m_1664, m_1665, m_12, m_1666, rfl, by decide, by decide, by decide +kernel⟩
theorem dL_law_1184 : decode cL_law 1184 = .ok (.invokevirtual 114, 3) := by decide +kernel
theorem dL_law_1187 : decode cL_law 1187 = .ok (.if_icmp .eq 678, 3) := by decide +kernel
theorem dL_law_1192 : decode cL_law 1192 = .ok (.aload_n 1, 1) := by decide +kernel
theorem dL_law_1193 : decode cL_law 1193 = .ok (.aload_n 0, 1) := by decide +kernel
theorem dL_law_1194 : decode cL_law 1194 = .ok (.iload 4, 2) := by decide +kernel
theorem dL_law_1196 : decode cL_law 1196 = .ok (.iconst 1, 1) := by decide +kernel
theorem dL_law_1197 : decode cL_law 1197 = .ok (.iadd, 1) := by decide +kernel
theorem dL_law_1198 : decode cL_law 1198 = .ok (.iaload, 1) := by decide +kernel
theorem m_879 : (Cond.methodLink "NoonValleyLaw" 115 yX11_fewest) ∈ BW := bw (tb4 159 (by decide +kernel)) (by decide +kernel)
theorem m_880 : (Cond.instanceMethod yX11_fewest) ∈ BW := bw (tb4 160 (by decide +kernel)) (by decide +kernel)
theorem m_881 : (Cond.selects "NoonValley" yX11_fewest yX11_fewest) ∈ BW := bw (tb4 161 (by decide +kernel)) (by decide +kernel)
theorem vL_115 : LV RL 115 RX11 yX11_fewest cX11_fewest 3 (some .int) 1 := ⟨m_879, m_880, m_881, m_1, m_882, rfl, by decide, by decide, by decide +kernel⟩
theorem dL_law_1199 : decode cL_law 1199 = .ok (.invokevirtual 115, 3) := by decide +kernel
theorem dL_law_1202 : decode cL_law 1202 = .ok (.aload_n 2, 1) := by decide +kernel
theorem dL_law_1203 : decode cL_law 1203 = .ok (.aload_n 0, 1) := by decide +kernel
theorem dL_law_1204 : decode cL_law 1204 = .ok (.iload 4, 2) := by decide +kernel
theorem dL_law_1206 : decode cL_law 1206 = .ok (.iconst 1, 1) := by decide +kernel
theorem dL_law_1207 : decode cL_law 1207 = .ok (.iadd, 1) := by decide +kernel
theorem dL_law_1208 : decode cL_law 1208 = .ok (.iaload, 1) := by decide +kernel
theorem m_1671 : (Cond.methodLink "NoonValleyLaw" 118 yX12_fewest) ∈ BW := bw (tb7 231 (by decide +kernel)) (by decide +kernel)
theorem m_1672 : (Cond.instanceMethod yX12_fewest) ∈ BW := bw (tb7 232 (by decide +kernel)) (by decide +kernel)
theorem m_1673 : (Cond.selects "NoonValleyModel" yX12_fewest yX12_fewest) ∈ BW := bw (tb7 233 (by decide +kernel)) (by decide +kernel)
theorem vL_118 : LV RL 118 RX12 yX12_fewest cX12_fewest 2 (some .int) 1 := ⟨m_1671, m_1672, m_1673, m_12, m_1674, rfl, by decide, by decide, by decide +kernel⟩
theorem dL_law_1209 : decode cL_law 1209 = .ok (.invokevirtual 118, 3) := by decide +kernel
theorem dL_law_1212 : decode cL_law 1212 = .ok (.if_icmp .eq 653, 3) := by decide +kernel
theorem dL_law_1217 : decode cL_law 1217 = .ok (.aload_n 1, 1) := by decide +kernel
theorem dL_law_1218 : decode cL_law 1218 = .ok (.aload_n 0, 1) := by decide +kernel
theorem dL_law_1219 : decode cL_law 1219 = .ok (.iload 4, 2) := by decide +kernel
theorem dL_law_1221 : decode cL_law 1221 = .ok (.iconst 1, 1) := by decide +kernel
theorem dL_law_1222 : decode cL_law 1222 = .ok (.iadd, 1) := by decide +kernel
theorem dL_law_1223 : decode cL_law 1223 = .ok (.iaload, 1) := by decide +kernel
theorem dL_law_1224 : decode cL_law 1224 = .ok (.aload_n 0, 1) := by decide +kernel
theorem dL_law_1225 : decode cL_law 1225 = .ok (.iload 4, 2) := by decide +kernel
theorem dL_law_1227 : decode cL_law 1227 = .ok (.iconst 2, 1) := by decide +kernel
theorem dL_law_1228 : decode cL_law 1228 = .ok (.iadd, 1) := by decide +kernel
theorem dL_law_1229 : decode cL_law 1229 = .ok (.iaload, 1) := by decide +kernel
theorem m_919 : (Cond.methodLink "NoonValleyLaw" 119 yX11_gossip) ∈ BW := bw (tb4 199 (by decide +kernel)) (by decide +kernel)
theorem m_920 : (Cond.instanceMethod yX11_gossip) ∈ BW := bw (tb4 200 (by decide +kernel)) (by decide +kernel)
theorem m_921 : (Cond.selects "NoonValley" yX11_gossip yX11_gossip) ∈ BW := bw (tb4 201 (by decide +kernel)) (by decide +kernel)
theorem vL_119 : LV RL 119 RX11 yX11_gossip cX11_gossip 4 (some .int) 2 := ⟨m_919, m_920, m_921, m_1, m_922, rfl, by decide, by decide, by decide +kernel⟩
theorem dL_law_1230 : decode cL_law 1230 = .ok (.invokevirtual 119, 3) := by decide +kernel
theorem dL_law_1233 : decode cL_law 1233 = .ok (.aload_n 2, 1) := by decide +kernel
theorem dL_law_1234 : decode cL_law 1234 = .ok (.aload_n 0, 1) := by decide +kernel
theorem dL_law_1235 : decode cL_law 1235 = .ok (.iload 4, 2) := by decide +kernel
theorem dL_law_1237 : decode cL_law 1237 = .ok (.iconst 1, 1) := by decide +kernel
theorem dL_law_1238 : decode cL_law 1238 = .ok (.iadd, 1) := by decide +kernel
theorem dL_law_1239 : decode cL_law 1239 = .ok (.iaload, 1) := by decide +kernel
theorem dL_law_1240 : decode cL_law 1240 = .ok (.aload_n 0, 1) := by decide +kernel
theorem dL_law_1241 : decode cL_law 1241 = .ok (.iload 4, 2) := by decide +kernel
theorem dL_law_1243 : decode cL_law 1243 = .ok (.iconst 2, 1) := by decide +kernel
theorem dL_law_1244 : decode cL_law 1244 = .ok (.iadd, 1) := by decide +kernel
theorem dL_law_1245 : decode cL_law 1245 = .ok (.iaload, 1) := by decide +kernel
theorem m_1687 : (Cond.methodLink "NoonValleyLaw" 122 yX12_gossip) ∈ BW := bw (tb8 7 (by decide +kernel)) (by decide +kernel)
theorem m_1688 : (Cond.instanceMethod yX12_gossip) ∈ BW := bw (tb8 8 (by decide +kernel)) (by decide +kernel)
theorem m_1689 : (Cond.selects "NoonValleyModel" yX12_gossip yX12_gossip) ∈ BW := bw (tb8 9 (by decide +kernel)) (by decide +kernel)
theorem vL_122 : LV RL 122 RX12 yX12_gossip cX12_gossip 4 (some .int) 2 := ⟨m_1687, m_1688, m_1689, m_12, m_1690, rfl, by decide, by decide, by decide +kernel⟩
theorem dL_law_1246 : decode cL_law 1246 = .ok (.invokevirtual 122, 3) := by decide +kernel
theorem dL_law_1249 : decode cL_law 1249 = .ok (.if_icmp .eq 616, 3) := by decide +kernel
theorem dL_law_1254 : decode cL_law 1254 = .ok (.aload_n 1, 1) := by decide +kernel
theorem dL_law_1255 : decode cL_law 1255 = .ok (.aload_n 0, 1) := by decide +kernel
theorem dL_law_1256 : decode cL_law 1256 = .ok (.iload 4, 2) := by decide +kernel
theorem dL_law_1258 : decode cL_law 1258 = .ok (.iconst 1, 1) := by decide +kernel
theorem dL_law_1259 : decode cL_law 1259 = .ok (.iadd, 1) := by decide +kernel
theorem dL_law_1260 : decode cL_law 1260 = .ok (.iaload, 1) := by decide +kernel
theorem dL_law_1261 : decode cL_law 1261 = .ok (.aload_n 0, 1) := by decide +kernel
theorem dL_law_1262 : decode cL_law 1262 = .ok (.iload 4, 2) := by decide +kernel
theorem dL_law_1264 : decode cL_law 1264 = .ok (.iconst 2, 1) := by decide +kernel
theorem dL_law_1265 : decode cL_law 1265 = .ok (.iadd, 1) := by decide +kernel
theorem dL_law_1266 : decode cL_law 1266 = .ok (.iaload, 1) := by decide +kernel
theorem m_923 : (Cond.methodLink "NoonValleyLaw" 123 yX11_ends) ∈ BW := bw (tb4 203 (by decide +kernel)) (by decide +kernel)
theorem m_924 : (Cond.instanceMethod yX11_ends) ∈ BW := bw (tb4 204 (by decide +kernel)) (by decide +kernel)
theorem m_925 : (Cond.selects "NoonValley" yX11_ends yX11_ends) ∈ BW := bw (tb4 205 (by decide +kernel)) (by decide +kernel)
theorem vL_123 : LV RL 123 RX11 yX11_ends cX11_ends 4 (some .int) 2 := ⟨m_923, m_924, m_925, m_1, m_926, rfl, by decide, by decide, by decide +kernel⟩
theorem dL_law_1267 : decode cL_law 1267 = .ok (.invokevirtual 123, 3) := by decide +kernel
theorem dL_law_1270 : decode cL_law 1270 = .ok (.aload_n 2, 1) := by decide +kernel
theorem dL_law_1271 : decode cL_law 1271 = .ok (.aload_n 0, 1) := by decide +kernel
theorem dL_law_1272 : decode cL_law 1272 = .ok (.iload 4, 2) := by decide +kernel
theorem dL_law_1274 : decode cL_law 1274 = .ok (.iconst 1, 1) := by decide +kernel
theorem dL_law_1275 : decode cL_law 1275 = .ok (.iadd, 1) := by decide +kernel
theorem dL_law_1276 : decode cL_law 1276 = .ok (.iaload, 1) := by decide +kernel
theorem dL_law_1277 : decode cL_law 1277 = .ok (.aload_n 0, 1) := by decide +kernel
theorem dL_law_1278 : decode cL_law 1278 = .ok (.iload 4, 2) := by decide +kernel
theorem dL_law_1280 : decode cL_law 1280 = .ok (.iconst 2, 1) := by decide +kernel
theorem dL_law_1281 : decode cL_law 1281 = .ok (.iadd, 1) := by decide +kernel
theorem dL_law_1282 : decode cL_law 1282 = .ok (.iaload, 1) := by decide +kernel
theorem m_1691 : (Cond.methodLink "NoonValleyLaw" 126 yX12_ends) ∈ BW := bw (tb8 11 (by decide +kernel)) (by decide +kernel)
theorem m_1692 : (Cond.instanceMethod yX12_ends) ∈ BW := bw (tb8 12 (by decide +kernel)) (by decide +kernel)
theorem m_1693 : (Cond.selects "NoonValleyModel" yX12_ends yX12_ends) ∈ BW := bw (tb8 13 (by decide +kernel)) (by decide +kernel)
theorem vL_126 : LV RL 126 RX12 yX12_ends cX12_ends 4 (some .int) 2 := ⟨m_1691, m_1692, m_1693, m_12, m_1694, rfl, by decide, by decide, by decide +kernel⟩
theorem dL_law_1283 : decode cL_law 1283 = .ok (.invokevirtual 126, 3) := by decide +kernel
theorem dL_law_1286 : decode cL_law 1286 = .ok (.if_icmp .eq 579, 3) := by decide +kernel
theorem dL_law_1291 : decode cL_law 1291 = .ok (.aload_n 1, 1) := by decide +kernel
theorem dL_law_1292 : decode cL_law 1292 = .ok (.aload_n 0, 1) := by decide +kernel
theorem dL_law_1293 : decode cL_law 1293 = .ok (.iload 4, 2) := by decide +kernel
theorem dL_law_1295 : decode cL_law 1295 = .ok (.iconst 1, 1) := by decide +kernel
theorem dL_law_1296 : decode cL_law 1296 = .ok (.iadd, 1) := by decide +kernel
theorem dL_law_1297 : decode cL_law 1297 = .ok (.iaload, 1) := by decide +kernel
theorem dL_law_1298 : decode cL_law 1298 = .ok (.aload_n 0, 1) := by decide +kernel
theorem dL_law_1299 : decode cL_law 1299 = .ok (.iload 4, 2) := by decide +kernel
theorem dL_law_1301 : decode cL_law 1301 = .ok (.iconst 2, 1) := by decide +kernel
theorem dL_law_1302 : decode cL_law 1302 = .ok (.iadd, 1) := by decide +kernel
theorem dL_law_1303 : decode cL_law 1303 = .ok (.iaload, 1) := by decide +kernel
theorem dL_law_1304 : decode cL_law 1304 = .ok (.aload_n 0, 1) := by decide +kernel
theorem dL_law_1305 : decode cL_law 1305 = .ok (.iload 4, 2) := by decide +kernel
theorem dL_law_1307 : decode cL_law 1307 = .ok (.iconst 3, 1) := by decide +kernel
theorem dL_law_1308 : decode cL_law 1308 = .ok (.iadd, 1) := by decide +kernel
theorem dL_law_1309 : decode cL_law 1309 = .ok (.iaload, 1) := by decide +kernel
theorem m_930 : (Cond.methodLink "NoonValleyLaw" 127 yX11_trade) ∈ BW := bw (tb4 210 (by decide +kernel)) (by decide +kernel)
theorem m_931 : (Cond.instanceMethod yX11_trade) ∈ BW := bw (tb4 211 (by decide +kernel)) (by decide +kernel)
theorem m_932 : (Cond.selects "NoonValley" yX11_trade yX11_trade) ∈ BW := bw (tb4 212 (by decide +kernel)) (by decide +kernel)
theorem vL_127 : LV RL 127 RX11 yX11_trade cX11_trade 6 (some .int) 3 := ⟨m_930, m_931, m_932, m_1, m_933, rfl, by decide, by decide, by decide +kernel⟩
theorem dL_law_1310 : decode cL_law 1310 = .ok (.invokevirtual 127, 3) := by decide +kernel
theorem dL_law_1313 : decode cL_law 1313 = .ok (.aload_n 2, 1) := by decide +kernel
theorem dL_law_1314 : decode cL_law 1314 = .ok (.aload_n 0, 1) := by decide +kernel
theorem dL_law_1315 : decode cL_law 1315 = .ok (.iload 4, 2) := by decide +kernel
theorem dL_law_1317 : decode cL_law 1317 = .ok (.iconst 1, 1) := by decide +kernel
theorem dL_law_1318 : decode cL_law 1318 = .ok (.iadd, 1) := by decide +kernel
theorem dL_law_1319 : decode cL_law 1319 = .ok (.iaload, 1) := by decide +kernel
theorem dL_law_1320 : decode cL_law 1320 = .ok (.aload_n 0, 1) := by decide +kernel
theorem dL_law_1321 : decode cL_law 1321 = .ok (.iload 4, 2) := by decide +kernel
theorem dL_law_1323 : decode cL_law 1323 = .ok (.iconst 2, 1) := by decide +kernel
theorem dL_law_1324 : decode cL_law 1324 = .ok (.iadd, 1) := by decide +kernel
theorem dL_law_1325 : decode cL_law 1325 = .ok (.iaload, 1) := by decide +kernel
theorem dL_law_1326 : decode cL_law 1326 = .ok (.aload_n 0, 1) := by decide +kernel
theorem dL_law_1327 : decode cL_law 1327 = .ok (.iload 4, 2) := by decide +kernel
theorem dL_law_1329 : decode cL_law 1329 = .ok (.iconst 3, 1) := by decide +kernel
theorem dL_law_1330 : decode cL_law 1330 = .ok (.iadd, 1) := by decide +kernel
theorem dL_law_1331 : decode cL_law 1331 = .ok (.iaload, 1) := by decide +kernel
theorem m_1695 : (Cond.methodLink "NoonValleyLaw" 130 yX12_trade) ∈ BW := bw (tb8 15 (by decide +kernel)) (by decide +kernel)
theorem m_1696 : (Cond.instanceMethod yX12_trade) ∈ BW := bw (tb8 16 (by decide +kernel)) (by decide +kernel)
theorem m_1697 : (Cond.selects "NoonValleyModel" yX12_trade yX12_trade) ∈ BW := bw (tb8 17 (by decide +kernel)) (by decide +kernel)
theorem vL_130 : LV RL 130 RX12 yX12_trade cX12_trade 6 (some .int) 3 := ⟨m_1695, m_1696, m_1697, m_12, m_1698, rfl, by decide, by decide, by decide +kernel⟩
theorem dL_law_1332 : decode cL_law 1332 = .ok (.invokevirtual 130, 3) := by decide +kernel
theorem dL_law_1335 : decode cL_law 1335 = .ok (.if_icmp .eq 530, 3) := by decide +kernel
theorem dL_law_1340 : decode cL_law 1340 = .ok (.aload_n 1, 1) := by decide +kernel
theorem dL_law_1341 : decode cL_law 1341 = .ok (.aload_n 0, 1) := by decide +kernel
theorem dL_law_1342 : decode cL_law 1342 = .ok (.iload 4, 2) := by decide +kernel
theorem dL_law_1344 : decode cL_law 1344 = .ok (.iconst 1, 1) := by decide +kernel
theorem dL_law_1345 : decode cL_law 1345 = .ok (.iadd, 1) := by decide +kernel
theorem dL_law_1346 : decode cL_law 1346 = .ok (.iaload, 1) := by decide +kernel
theorem dL_law_1347 : decode cL_law 1347 = .ok (.aload_n 0, 1) := by decide +kernel
theorem dL_law_1348 : decode cL_law 1348 = .ok (.iload 4, 2) := by decide +kernel
theorem dL_law_1350 : decode cL_law 1350 = .ok (.iconst 2, 1) := by decide +kernel
theorem dL_law_1351 : decode cL_law 1351 = .ok (.iadd, 1) := by decide +kernel
theorem dL_law_1352 : decode cL_law 1352 = .ok (.iaload, 1) := by decide +kernel
theorem dL_law_1353 : decode cL_law 1353 = .ok (.aload_n 0, 1) := by decide +kernel
theorem dL_law_1354 : decode cL_law 1354 = .ok (.iload 4, 2) := by decide +kernel
theorem dL_law_1356 : decode cL_law 1356 = .ok (.iconst 3, 1) := by decide +kernel
theorem dL_law_1357 : decode cL_law 1357 = .ok (.iadd, 1) := by decide +kernel
theorem dL_law_1358 : decode cL_law 1358 = .ok (.iaload, 1) := by decide +kernel
theorem m_978 : (Cond.methodLink "NoonValleyLaw" 131 yX11_card) ∈ BW := bw (tb5 18 (by decide +kernel)) (by decide +kernel)
theorem m_979 : (Cond.instanceMethod yX11_card) ∈ BW := bw (tb5 19 (by decide +kernel)) (by decide +kernel)
theorem m_980 : (Cond.selects "NoonValley" yX11_card yX11_card) ∈ BW := bw (tb5 20 (by decide +kernel)) (by decide +kernel)
theorem vL_131 : LV RL 131 RX11 yX11_card cX11_card 5 (some .int) 3 := ⟨m_978, m_979, m_980, m_1, m_981, rfl, by decide, by decide, by decide +kernel⟩
theorem dL_law_1359 : decode cL_law 1359 = .ok (.invokevirtual 131, 3) := by decide +kernel
theorem dL_law_1362 : decode cL_law 1362 = .ok (.aload_n 2, 1) := by decide +kernel
theorem dL_law_1363 : decode cL_law 1363 = .ok (.aload_n 0, 1) := by decide +kernel
theorem dL_law_1364 : decode cL_law 1364 = .ok (.iload 4, 2) := by decide +kernel
theorem dL_law_1366 : decode cL_law 1366 = .ok (.iconst 1, 1) := by decide +kernel
theorem dL_law_1367 : decode cL_law 1367 = .ok (.iadd, 1) := by decide +kernel
theorem dL_law_1368 : decode cL_law 1368 = .ok (.iaload, 1) := by decide +kernel
theorem dL_law_1369 : decode cL_law 1369 = .ok (.aload_n 0, 1) := by decide +kernel
theorem dL_law_1370 : decode cL_law 1370 = .ok (.iload 4, 2) := by decide +kernel
theorem dL_law_1372 : decode cL_law 1372 = .ok (.iconst 2, 1) := by decide +kernel
theorem dL_law_1373 : decode cL_law 1373 = .ok (.iadd, 1) := by decide +kernel
theorem dL_law_1374 : decode cL_law 1374 = .ok (.iaload, 1) := by decide +kernel
theorem dL_law_1375 : decode cL_law 1375 = .ok (.aload_n 0, 1) := by decide +kernel
theorem dL_law_1376 : decode cL_law 1376 = .ok (.iload 4, 2) := by decide +kernel
theorem dL_law_1378 : decode cL_law 1378 = .ok (.iconst 3, 1) := by decide +kernel
theorem dL_law_1379 : decode cL_law 1379 = .ok (.iadd, 1) := by decide +kernel
theorem dL_law_1380 : decode cL_law 1380 = .ok (.iaload, 1) := by decide +kernel
theorem m_1714 : (Cond.methodLink "NoonValleyLaw" 134 yX12_card) ∈ BW := bw (tb8 34 (by decide +kernel)) (by decide +kernel)
theorem m_1715 : (Cond.instanceMethod yX12_card) ∈ BW := bw (tb8 35 (by decide +kernel)) (by decide +kernel)
theorem m_1716 : (Cond.selects "NoonValleyModel" yX12_card yX12_card) ∈ BW := bw (tb8 36 (by decide +kernel)) (by decide +kernel)
theorem vL_134 : LV RL 134 RX12 yX12_card cX12_card 5 (some .int) 3 := ⟨m_1714, m_1715, m_1716, m_12, m_1717, rfl, by decide, by decide, by decide +kernel⟩
theorem dL_law_1381 : decode cL_law 1381 = .ok (.invokevirtual 134, 3) := by decide +kernel
theorem dL_law_1384 : decode cL_law 1384 = .ok (.if_icmp .eq 481, 3) := by decide +kernel
theorem dL_law_1389 : decode cL_law 1389 = .ok (.aload_n 1, 1) := by decide +kernel
theorem dL_law_1390 : decode cL_law 1390 = .ok (.aload_n 0, 1) := by decide +kernel
theorem dL_law_1391 : decode cL_law 1391 = .ok (.iload 4, 2) := by decide +kernel
theorem dL_law_1393 : decode cL_law 1393 = .ok (.iconst 1, 1) := by decide +kernel
theorem dL_law_1394 : decode cL_law 1394 = .ok (.iadd, 1) := by decide +kernel
theorem dL_law_1395 : decode cL_law 1395 = .ok (.iaload, 1) := by decide +kernel
theorem m_986 : (Cond.methodLink "NoonValleyLaw" 135 yX11_blank) ∈ BW := bw (tb5 26 (by decide +kernel)) (by decide +kernel)
theorem m_987 : (Cond.instanceMethod yX11_blank) ∈ BW := bw (tb5 27 (by decide +kernel)) (by decide +kernel)
theorem m_988 : (Cond.selects "NoonValley" yX11_blank yX11_blank) ∈ BW := bw (tb5 28 (by decide +kernel)) (by decide +kernel)
theorem vL_135 : LV RL 135 RX11 yX11_blank cX11_blank 3 (some .boolean) 1 := ⟨m_986, m_987, m_988, m_1, m_989, rfl, by decide, by decide, by decide +kernel⟩
theorem dL_law_1396 : decode cL_law 1396 = .ok (.invokevirtual 135, 3) := by decide +kernel
theorem dL_law_1399 : decode cL_law 1399 = .ok (.aload_n 2, 1) := by decide +kernel
theorem dL_law_1400 : decode cL_law 1400 = .ok (.aload_n 0, 1) := by decide +kernel
theorem dL_law_1401 : decode cL_law 1401 = .ok (.iload 4, 2) := by decide +kernel
theorem dL_law_1403 : decode cL_law 1403 = .ok (.iconst 1, 1) := by decide +kernel
theorem dL_law_1404 : decode cL_law 1404 = .ok (.iadd, 1) := by decide +kernel
theorem dL_law_1405 : decode cL_law 1405 = .ok (.iaload, 1) := by decide +kernel
theorem m_1718 : (Cond.methodLink "NoonValleyLaw" 138 yX12_blank) ∈ BW := bw (tb8 38 (by decide +kernel)) (by decide +kernel)
theorem m_1719 : (Cond.instanceMethod yX12_blank) ∈ BW := bw (tb8 39 (by decide +kernel)) (by decide +kernel)
theorem m_1720 : (Cond.selects "NoonValleyModel" yX12_blank yX12_blank) ∈ BW := bw (tb8 40 (by decide +kernel)) (by decide +kernel)
theorem vL_138 : LV RL 138 RX12 yX12_blank cX12_blank 3 (some .boolean) 1 := ⟨m_1718, m_1719, m_1720, m_12, m_1721, rfl, by decide, by decide, by decide +kernel⟩
theorem dL_law_1406 : decode cL_law 1406 = .ok (.invokevirtual 138, 3) := by decide +kernel
theorem dL_law_1409 : decode cL_law 1409 = .ok (.if_icmp .eq 456, 3) := by decide +kernel
theorem dL_law_1414 : decode cL_law 1414 = .ok (.aload_n 1, 1) := by decide +kernel
theorem dL_law_1415 : decode cL_law 1415 = .ok (.aload_n 0, 1) := by decide +kernel
theorem dL_law_1416 : decode cL_law 1416 = .ok (.iload 4, 2) := by decide +kernel
theorem dL_law_1418 : decode cL_law 1418 = .ok (.iconst 1, 1) := by decide +kernel
theorem dL_law_1419 : decode cL_law 1419 = .ok (.iadd, 1) := by decide +kernel
theorem dL_law_1420 : decode cL_law 1420 = .ok (.iaload, 1) := by decide +kernel
theorem dL_law_1421 : decode cL_law 1421 = .ok (.aload_n 0, 1) := by decide +kernel
theorem dL_law_1422 : decode cL_law 1422 = .ok (.iload 4, 2) := by decide +kernel
theorem dL_law_1424 : decode cL_law 1424 = .ok (.iconst 2, 1) := by decide +kernel
theorem dL_law_1425 : decode cL_law 1425 = .ok (.iadd, 1) := by decide +kernel
theorem dL_law_1426 : decode cL_law 1426 = .ok (.iaload, 1) := by decide +kernel
theorem m_994 : (Cond.methodLink "NoonValleyLaw" 139 yX11_kept) ∈ BW := bw (tb5 34 (by decide +kernel)) (by decide +kernel)
theorem m_995 : (Cond.instanceMethod yX11_kept) ∈ BW := bw (tb5 35 (by decide +kernel)) (by decide +kernel)
theorem m_996 : (Cond.selects "NoonValley" yX11_kept yX11_kept) ∈ BW := bw (tb5 36 (by decide +kernel)) (by decide +kernel)
theorem vL_139 : LV RL 139 RX11 yX11_kept cX11_kept 4 (some .int) 2 := ⟨m_994, m_995, m_996, m_1, m_997, rfl, by decide, by decide, by decide +kernel⟩
theorem dL_law_1427 : decode cL_law 1427 = .ok (.invokevirtual 139, 3) := by decide +kernel
theorem dL_law_1430 : decode cL_law 1430 = .ok (.aload_n 2, 1) := by decide +kernel
theorem dL_law_1431 : decode cL_law 1431 = .ok (.aload_n 0, 1) := by decide +kernel
theorem dL_law_1432 : decode cL_law 1432 = .ok (.iload 4, 2) := by decide +kernel
theorem dL_law_1434 : decode cL_law 1434 = .ok (.iconst 1, 1) := by decide +kernel
theorem dL_law_1435 : decode cL_law 1435 = .ok (.iadd, 1) := by decide +kernel
theorem dL_law_1436 : decode cL_law 1436 = .ok (.iaload, 1) := by decide +kernel
theorem dL_law_1437 : decode cL_law 1437 = .ok (.aload_n 0, 1) := by decide +kernel
theorem dL_law_1438 : decode cL_law 1438 = .ok (.iload 4, 2) := by decide +kernel
theorem dL_law_1440 : decode cL_law 1440 = .ok (.iconst 2, 1) := by decide +kernel
theorem dL_law_1441 : decode cL_law 1441 = .ok (.iadd, 1) := by decide +kernel
theorem dL_law_1442 : decode cL_law 1442 = .ok (.iaload, 1) := by decide +kernel
theorem m_1722 : (Cond.methodLink "NoonValleyLaw" 142 yX12_kept) ∈ BW := bw (tb8 42 (by decide +kernel)) (by decide +kernel)
theorem m_1723 : (Cond.instanceMethod yX12_kept) ∈ BW := bw (tb8 43 (by decide +kernel)) (by decide +kernel)
theorem m_1724 : (Cond.selects "NoonValleyModel" yX12_kept yX12_kept) ∈ BW := bw (tb8 44 (by decide +kernel)) (by decide +kernel)
theorem vL_142 : LV RL 142 RX12 yX12_kept cX12_kept 10 (some .int) 2 := ⟨m_1722, m_1723, m_1724, m_12, m_1725, rfl, by decide, by decide, by decide +kernel⟩
theorem dL_law_1443 : decode cL_law 1443 = .ok (.invokevirtual 142, 3) := by decide +kernel
theorem dL_law_1446 : decode cL_law 1446 = .ok (.if_icmp .eq 419, 3) := by decide +kernel
theorem dL_law_1451 : decode cL_law 1451 = .ok (.aload_n 1, 1) := by decide +kernel
theorem dL_law_1452 : decode cL_law 1452 = .ok (.aload_n 0, 1) := by decide +kernel
theorem dL_law_1453 : decode cL_law 1453 = .ok (.iload 4, 2) := by decide +kernel
theorem dL_law_1455 : decode cL_law 1455 = .ok (.iconst 1, 1) := by decide +kernel
theorem dL_law_1456 : decode cL_law 1456 = .ok (.iadd, 1) := by decide +kernel
theorem dL_law_1457 : decode cL_law 1457 = .ok (.iaload, 1) := by decide +kernel
theorem dL_law_1458 : decode cL_law 1458 = .ok (.aload_n 0, 1) := by decide +kernel
theorem dL_law_1459 : decode cL_law 1459 = .ok (.iload 4, 2) := by decide +kernel
theorem dL_law_1461 : decode cL_law 1461 = .ok (.iconst 2, 1) := by decide +kernel
theorem dL_law_1462 : decode cL_law 1462 = .ok (.iadd, 1) := by decide +kernel
theorem dL_law_1463 : decode cL_law 1463 = .ok (.iaload, 1) := by decide +kernel
theorem dL_law_1464 : decode cL_law 1464 = .ok (.aload_n 0, 1) := by decide +kernel
theorem dL_law_1465 : decode cL_law 1465 = .ok (.iload 4, 2) := by decide +kernel
theorem dL_law_1467 : decode cL_law 1467 = .ok (.iconst 3, 1) := by decide +kernel
theorem dL_law_1468 : decode cL_law 1468 = .ok (.iadd, 1) := by decide +kernel
theorem dL_law_1469 : decode cL_law 1469 = .ok (.iaload, 1) := by decide +kernel
theorem dL_law_1470 : decode cL_law 1470 = .ok (.aload_n 0, 1) := by decide +kernel
theorem dL_law_1471 : decode cL_law 1471 = .ok (.iload 4, 2) := by decide +kernel
theorem dL_law_1473 : decode cL_law 1473 = .ok (.iconst 4, 1) := by decide +kernel
theorem dL_law_1474 : decode cL_law 1474 = .ok (.iadd, 1) := by decide +kernel
theorem dL_law_1475 : decode cL_law 1475 = .ok (.iaload, 1) := by decide +kernel
theorem m_1014 : (Cond.methodLink "NoonValleyLaw" 143 yX11_tree) ∈ BW := bw (tb5 54 (by decide +kernel)) (by decide +kernel)
theorem m_1015 : (Cond.instanceMethod yX11_tree) ∈ BW := bw (tb5 55 (by decide +kernel)) (by decide +kernel)
theorem m_1016 : (Cond.selects "NoonValley" yX11_tree yX11_tree) ∈ BW := bw (tb5 56 (by decide +kernel)) (by decide +kernel)
theorem vL_143 : LV RL 143 RX11 yX11_tree cX11_tree 6 (some .int) 4 := ⟨m_1014, m_1015, m_1016, m_1, m_1017, rfl, by decide, by decide, by decide +kernel⟩
theorem dL_law_1476 : decode cL_law 1476 = .ok (.invokevirtual 143, 3) := by decide +kernel
theorem dL_law_1479 : decode cL_law 1479 = .ok (.aload_n 2, 1) := by decide +kernel
theorem dL_law_1480 : decode cL_law 1480 = .ok (.aload_n 0, 1) := by decide +kernel
theorem dL_law_1481 : decode cL_law 1481 = .ok (.iload 4, 2) := by decide +kernel
theorem dL_law_1483 : decode cL_law 1483 = .ok (.iconst 1, 1) := by decide +kernel
theorem dL_law_1484 : decode cL_law 1484 = .ok (.iadd, 1) := by decide +kernel
theorem dL_law_1485 : decode cL_law 1485 = .ok (.iaload, 1) := by decide +kernel
theorem dL_law_1486 : decode cL_law 1486 = .ok (.aload_n 0, 1) := by decide +kernel
theorem dL_law_1487 : decode cL_law 1487 = .ok (.iload 4, 2) := by decide +kernel
theorem dL_law_1489 : decode cL_law 1489 = .ok (.iconst 2, 1) := by decide +kernel
theorem dL_law_1490 : decode cL_law 1490 = .ok (.iadd, 1) := by decide +kernel
theorem dL_law_1491 : decode cL_law 1491 = .ok (.iaload, 1) := by decide +kernel
theorem dL_law_1492 : decode cL_law 1492 = .ok (.aload_n 0, 1) := by decide +kernel
theorem dL_law_1493 : decode cL_law 1493 = .ok (.iload 4, 2) := by decide +kernel
theorem dL_law_1495 : decode cL_law 1495 = .ok (.iconst 3, 1) := by decide +kernel
theorem dL_law_1496 : decode cL_law 1496 = .ok (.iadd, 1) := by decide +kernel
theorem dL_law_1497 : decode cL_law 1497 = .ok (.iaload, 1) := by decide +kernel
theorem dL_law_1498 : decode cL_law 1498 = .ok (.aload_n 0, 1) := by decide +kernel
theorem dL_law_1499 : decode cL_law 1499 = .ok (.iload 4, 2) := by decide +kernel
theorem dL_law_1501 : decode cL_law 1501 = .ok (.iconst 4, 1) := by decide +kernel
theorem dL_law_1502 : decode cL_law 1502 = .ok (.iadd, 1) := by decide +kernel
theorem dL_law_1503 : decode cL_law 1503 = .ok (.iaload, 1) := by decide +kernel
theorem m_1726 : (Cond.methodLink "NoonValleyLaw" 146 yX12_tree) ∈ BW := bw (tb8 46 (by decide +kernel)) (by decide +kernel)
theorem m_1727 : (Cond.instanceMethod yX12_tree) ∈ BW := bw (tb8 47 (by decide +kernel)) (by decide +kernel)
theorem m_1728 : (Cond.selects "NoonValleyModel" yX12_tree yX12_tree) ∈ BW := bw (tb8 48 (by decide +kernel)) (by decide +kernel)
theorem vL_146 : LV RL 146 RX12 yX12_tree cX12_tree 5 (some .int) 4 := ⟨m_1726, m_1727, m_1728, m_12, m_1729, rfl, by decide, by decide, by decide +kernel⟩
theorem dL_law_1504 : decode cL_law 1504 = .ok (.invokevirtual 146, 3) := by decide +kernel
theorem dL_law_1507 : decode cL_law 1507 = .ok (.if_icmp .eq 358, 3) := by decide +kernel
theorem dL_law_1512 : decode cL_law 1512 = .ok (.aload_n 1, 1) := by decide +kernel
theorem dL_law_1513 : decode cL_law 1513 = .ok (.aload_n 0, 1) := by decide +kernel
theorem dL_law_1514 : decode cL_law 1514 = .ok (.iload 4, 2) := by decide +kernel
theorem dL_law_1516 : decode cL_law 1516 = .ok (.iconst 1, 1) := by decide +kernel
theorem dL_law_1517 : decode cL_law 1517 = .ok (.iadd, 1) := by decide +kernel
theorem dL_law_1518 : decode cL_law 1518 = .ok (.iaload, 1) := by decide +kernel
theorem dL_law_1519 : decode cL_law 1519 = .ok (.aload_n 0, 1) := by decide +kernel
theorem dL_law_1520 : decode cL_law 1520 = .ok (.iload 4, 2) := by decide +kernel
theorem dL_law_1522 : decode cL_law 1522 = .ok (.iconst 2, 1) := by decide +kernel
theorem dL_law_1523 : decode cL_law 1523 = .ok (.iadd, 1) := by decide +kernel
theorem dL_law_1524 : decode cL_law 1524 = .ok (.iaload, 1) := by decide +kernel
theorem m_1041 : (Cond.methodLink "NoonValleyLaw" 147 yX11_breaks) ∈ BW := bw (tb5 81 (by decide +kernel)) (by decide +kernel)
theorem m_1042 : (Cond.instanceMethod yX11_breaks) ∈ BW := bw (tb5 82 (by decide +kernel)) (by decide +kernel)
theorem m_1043 : (Cond.selects "NoonValley" yX11_breaks yX11_breaks) ∈ BW := bw (tb5 83 (by decide +kernel)) (by decide +kernel)
theorem vL_147 : LV RL 147 RX11 yX11_breaks cX11_breaks 5 (some .int) 2 := ⟨m_1041, m_1042, m_1043, m_1, m_1044, rfl, by decide, by decide, by decide +kernel⟩
theorem dL_law_1525 : decode cL_law 1525 = .ok (.invokevirtual 147, 3) := by decide +kernel
theorem dL_law_1528 : decode cL_law 1528 = .ok (.aload_n 2, 1) := by decide +kernel
theorem dL_law_1529 : decode cL_law 1529 = .ok (.aload_n 0, 1) := by decide +kernel
theorem dL_law_1530 : decode cL_law 1530 = .ok (.iload 4, 2) := by decide +kernel
theorem dL_law_1532 : decode cL_law 1532 = .ok (.iconst 1, 1) := by decide +kernel
theorem dL_law_1533 : decode cL_law 1533 = .ok (.iadd, 1) := by decide +kernel
theorem dL_law_1534 : decode cL_law 1534 = .ok (.iaload, 1) := by decide +kernel
theorem dL_law_1535 : decode cL_law 1535 = .ok (.aload_n 0, 1) := by decide +kernel
theorem dL_law_1536 : decode cL_law 1536 = .ok (.iload 4, 2) := by decide +kernel
theorem dL_law_1538 : decode cL_law 1538 = .ok (.iconst 2, 1) := by decide +kernel
theorem dL_law_1539 : decode cL_law 1539 = .ok (.iadd, 1) := by decide +kernel
theorem dL_law_1540 : decode cL_law 1540 = .ok (.iaload, 1) := by decide +kernel
theorem m_1743 : (Cond.methodLink "NoonValleyLaw" 150 yX12_breaks) ∈ BW := bw (tb8 63 (by decide +kernel)) (by decide +kernel)
theorem m_1744 : (Cond.instanceMethod yX12_breaks) ∈ BW := bw (tb8 64 (by decide +kernel)) (by decide +kernel)
theorem m_1745 : (Cond.selects "NoonValleyModel" yX12_breaks yX12_breaks) ∈ BW := bw (tb8 65 (by decide +kernel)) (by decide +kernel)
theorem vL_150 : LV RL 150 RX12 yX12_breaks cX12_breaks 4 (some .int) 2 := ⟨m_1743, m_1744, m_1745, m_12, m_1746, rfl, by decide, by decide, by decide +kernel⟩
theorem dL_law_1541 : decode cL_law 1541 = .ok (.invokevirtual 150, 3) := by decide +kernel
theorem dL_law_1544 : decode cL_law 1544 = .ok (.if_icmp .eq 321, 3) := by decide +kernel
theorem dL_law_1549 : decode cL_law 1549 = .ok (.aload_n 1, 1) := by decide +kernel
theorem dL_law_1550 : decode cL_law 1550 = .ok (.aload_n 0, 1) := by decide +kernel
theorem dL_law_1551 : decode cL_law 1551 = .ok (.iload 4, 2) := by decide +kernel
theorem dL_law_1553 : decode cL_law 1553 = .ok (.iconst 1, 1) := by decide +kernel
theorem dL_law_1554 : decode cL_law 1554 = .ok (.iadd, 1) := by decide +kernel
theorem dL_law_1555 : decode cL_law 1555 = .ok (.iaload, 1) := by decide +kernel
theorem m_1063 : (Cond.methodLink "NoonValleyLaw" 151 yX11_breaker) ∈ BW := bw (tb5 103 (by decide +kernel)) (by decide +kernel)
theorem m_1064 : (Cond.instanceMethod yX11_breaker) ∈ BW := bw (tb5 104 (by decide +kernel)) (by decide +kernel)
theorem m_1065 : (Cond.selects "NoonValley" yX11_breaker yX11_breaker) ∈ BW := bw (tb5 105 (by decide +kernel)) (by decide +kernel)
theorem vL_151 : LV RL 151 RX11 yX11_breaker cX11_breaker 3 (some .int) 1 := ⟨m_1063, m_1064, m_1065, m_1, m_1066, rfl, by decide, by decide, by decide +kernel⟩
theorem dL_law_1556 : decode cL_law 1556 = .ok (.invokevirtual 151, 3) := by decide +kernel
theorem dL_law_1559 : decode cL_law 1559 = .ok (.aload_n 2, 1) := by decide +kernel
theorem dL_law_1560 : decode cL_law 1560 = .ok (.aload_n 0, 1) := by decide +kernel
theorem dL_law_1561 : decode cL_law 1561 = .ok (.iload 4, 2) := by decide +kernel
theorem dL_law_1563 : decode cL_law 1563 = .ok (.iconst 1, 1) := by decide +kernel
theorem dL_law_1564 : decode cL_law 1564 = .ok (.iadd, 1) := by decide +kernel
theorem dL_law_1565 : decode cL_law 1565 = .ok (.iaload, 1) := by decide +kernel
theorem m_1755 : (Cond.methodLink "NoonValleyLaw" 154 yX12_breaker) ∈ BW := bw (tb8 75 (by decide +kernel)) (by decide +kernel)
theorem m_1756 : (Cond.instanceMethod yX12_breaker) ∈ BW := bw (tb8 76 (by decide +kernel)) (by decide +kernel)
theorem m_1757 : (Cond.selects "NoonValleyModel" yX12_breaker yX12_breaker) ∈ BW := bw (tb8 77 (by decide +kernel)) (by decide +kernel)
theorem vL_154 : LV RL 154 RX12 yX12_breaker cX12_breaker 3 (some .int) 1 := ⟨m_1755, m_1756, m_1757, m_12, m_1758, rfl, by decide, by decide, by decide +kernel⟩
theorem dL_law_1566 : decode cL_law 1566 = .ok (.invokevirtual 154, 3) := by decide +kernel
theorem dL_law_1569 : decode cL_law 1569 = .ok (.if_icmp .eq 296, 3) := by decide +kernel
theorem dL_law_1574 : decode cL_law 1574 = .ok (.aload_n 1, 1) := by decide +kernel
theorem dL_law_1575 : decode cL_law 1575 = .ok (.aload_n 0, 1) := by decide +kernel
theorem dL_law_1576 : decode cL_law 1576 = .ok (.iload 4, 2) := by decide +kernel
theorem dL_law_1578 : decode cL_law 1578 = .ok (.iconst 1, 1) := by decide +kernel
theorem dL_law_1579 : decode cL_law 1579 = .ok (.iadd, 1) := by decide +kernel
theorem dL_law_1580 : decode cL_law 1580 = .ok (.iaload, 1) := by decide +kernel
theorem dL_law_1581 : decode cL_law 1581 = .ok (.aload_n 0, 1) := by decide +kernel
theorem dL_law_1582 : decode cL_law 1582 = .ok (.iload 4, 2) := by decide +kernel
theorem dL_law_1584 : decode cL_law 1584 = .ok (.iconst 2, 1) := by decide +kernel
theorem dL_law_1585 : decode cL_law 1585 = .ok (.iadd, 1) := by decide +kernel
theorem dL_law_1586 : decode cL_law 1586 = .ok (.iaload, 1) := by decide +kernel
theorem dL_law_1587 : decode cL_law 1587 = .ok (.aload_n 0, 1) := by decide +kernel
theorem dL_law_1588 : decode cL_law 1588 = .ok (.iload 4, 2) := by decide +kernel
theorem dL_law_1590 : decode cL_law 1590 = .ok (.iconst 3, 1) := by decide +kernel
theorem dL_law_1591 : decode cL_law 1591 = .ok (.iadd, 1) := by decide +kernel
theorem dL_law_1592 : decode cL_law 1592 = .ok (.iaload, 1) := by decide +kernel
theorem m_1071 : (Cond.methodLink "NoonValleyLaw" 155 yX11_ways) ∈ BW := bw (tb5 111 (by decide +kernel)) (by decide +kernel)
theorem m_1072 : (Cond.instanceMethod yX11_ways) ∈ BW := bw (tb5 112 (by decide +kernel)) (by decide +kernel)
theorem m_1073 : (Cond.selects "NoonValley" yX11_ways yX11_ways) ∈ BW := bw (tb5 113 (by decide +kernel)) (by decide +kernel)
theorem vL_155 : LV RL 155 RX11 yX11_ways cX11_ways 4 (some .long) 3 := ⟨m_1071, m_1072, m_1073, m_1, m_1074, rfl, by decide, by decide, by decide +kernel⟩
theorem dL_law_1593 : decode cL_law 1593 = .ok (.invokevirtual 155, 3) := by decide +kernel
theorem dL_law_1596 : decode cL_law 1596 = .ok (.aload_n 2, 1) := by decide +kernel
theorem dL_law_1597 : decode cL_law 1597 = .ok (.aload_n 0, 1) := by decide +kernel
theorem dL_law_1598 : decode cL_law 1598 = .ok (.iload 4, 2) := by decide +kernel
theorem dL_law_1600 : decode cL_law 1600 = .ok (.iconst 1, 1) := by decide +kernel
theorem dL_law_1601 : decode cL_law 1601 = .ok (.iadd, 1) := by decide +kernel
theorem dL_law_1602 : decode cL_law 1602 = .ok (.iaload, 1) := by decide +kernel
theorem dL_law_1603 : decode cL_law 1603 = .ok (.aload_n 0, 1) := by decide +kernel
theorem dL_law_1604 : decode cL_law 1604 = .ok (.iload 4, 2) := by decide +kernel
theorem dL_law_1606 : decode cL_law 1606 = .ok (.iconst 2, 1) := by decide +kernel
theorem dL_law_1607 : decode cL_law 1607 = .ok (.iadd, 1) := by decide +kernel
theorem dL_law_1608 : decode cL_law 1608 = .ok (.iaload, 1) := by decide +kernel
theorem dL_law_1609 : decode cL_law 1609 = .ok (.aload_n 0, 1) := by decide +kernel
theorem dL_law_1610 : decode cL_law 1610 = .ok (.iload 4, 2) := by decide +kernel
theorem dL_law_1612 : decode cL_law 1612 = .ok (.iconst 3, 1) := by decide +kernel
theorem dL_law_1613 : decode cL_law 1613 = .ok (.iadd, 1) := by decide +kernel
theorem dL_law_1614 : decode cL_law 1614 = .ok (.iaload, 1) := by decide +kernel
theorem m_1759 : (Cond.methodLink "NoonValleyLaw" 159 yX12_ways) ∈ BW := bw (tb8 79 (by decide +kernel)) (by decide +kernel)
theorem m_1760 : (Cond.instanceMethod yX12_ways) ∈ BW := bw (tb8 80 (by decide +kernel)) (by decide +kernel)
theorem m_1761 : (Cond.selects "NoonValleyModel" yX12_ways yX12_ways) ∈ BW := bw (tb8 81 (by decide +kernel)) (by decide +kernel)
theorem vL_159 : LV RL 159 RX12 yX12_ways cX12_ways 7 (some .long) 3 := ⟨m_1759, m_1760, m_1761, m_12, m_1762, rfl, by decide, by decide, by decide +kernel⟩
theorem dL_law_1615 : decode cL_law 1615 = .ok (.invokevirtual 159, 3) := by decide +kernel
theorem dL_law_1618 : decode cL_law 1618 = .ok (.lcmp, 1) := by decide +kernel
theorem dL_law_1619 : decode cL_law 1619 = .ok (.ifCond .eq 246, 3) := by decide +kernel
theorem dL_law_1624 : decode cL_law 1624 = .ok (.aload_n 1, 1) := by decide +kernel
theorem dL_law_1625 : decode cL_law 1625 = .ok (.aload_n 0, 1) := by decide +kernel
theorem dL_law_1626 : decode cL_law 1626 = .ok (.iload 4, 2) := by decide +kernel
theorem dL_law_1628 : decode cL_law 1628 = .ok (.iconst 1, 1) := by decide +kernel
theorem dL_law_1629 : decode cL_law 1629 = .ok (.iadd, 1) := by decide +kernel
theorem dL_law_1630 : decode cL_law 1630 = .ok (.iaload, 1) := by decide +kernel
theorem dL_law_1631 : decode cL_law 1631 = .ok (.aload_n 0, 1) := by decide +kernel
theorem dL_law_1632 : decode cL_law 1632 = .ok (.iload 4, 2) := by decide +kernel
theorem dL_law_1634 : decode cL_law 1634 = .ok (.iconst 2, 1) := by decide +kernel
theorem dL_law_1635 : decode cL_law 1635 = .ok (.iadd, 1) := by decide +kernel
theorem dL_law_1636 : decode cL_law 1636 = .ok (.iaload, 1) := by decide +kernel
theorem dL_law_1637 : decode cL_law 1637 = .ok (.aload_n 0, 1) := by decide +kernel
theorem dL_law_1638 : decode cL_law 1638 = .ok (.iload 4, 2) := by decide +kernel
theorem dL_law_1640 : decode cL_law 1640 = .ok (.iconst 3, 1) := by decide +kernel
theorem dL_law_1641 : decode cL_law 1641 = .ok (.iadd, 1) := by decide +kernel
theorem dL_law_1642 : decode cL_law 1642 = .ok (.iaload, 1) := by decide +kernel
theorem dL_law_1643 : decode cL_law 1643 = .ok (.i2l, 1) := by decide +kernel
theorem dL_law_1644 : decode cL_law 1644 = .ok (.bipush 32, 2) := by decide +kernel
theorem dL_law_1646 : decode cL_law 1646 = .ok (.lshl, 1) := by decide +kernel
theorem dL_law_1647 : decode cL_law 1647 = .ok (.aload_n 0, 1) := by decide +kernel
theorem dL_law_1648 : decode cL_law 1648 = .ok (.iload 4, 2) := by decide +kernel
theorem dL_law_1650 : decode cL_law 1650 = .ok (.iconst 4, 1) := by decide +kernel
theorem dL_law_1651 : decode cL_law 1651 = .ok (.iadd, 1) := by decide +kernel
theorem dL_law_1652 : decode cL_law 1652 = .ok (.iaload, 1) := by decide +kernel
theorem dL_law_1653 : decode cL_law 1653 = .ok (.i2l, 1) := by decide +kernel
theorem m_1806 : (Cond.constantLong "NoonValleyLaw" 160 (4294967295 : Int64)) ∈ BW := bw (tb8 126 (by decide +kernel)) (by decide +kernel)
theorem dL_law_1654 : decode cL_law 1654 = .ok (.ldc2_w 160, 3) := by decide +kernel
theorem dL_law_1657 : decode cL_law 1657 = .ok (.land, 1) := by decide +kernel
theorem dL_law_1658 : decode cL_law 1658 = .ok (.lor, 1) := by decide +kernel
theorem m_1095 : (Cond.methodLink "NoonValleyLaw" 162 yX11_drawn) ∈ BW := bw (tb5 135 (by decide +kernel)) (by decide +kernel)
theorem m_1096 : (Cond.instanceMethod yX11_drawn) ∈ BW := bw (tb5 136 (by decide +kernel)) (by decide +kernel)
theorem m_1097 : (Cond.selects "NoonValley" yX11_drawn yX11_drawn) ∈ BW := bw (tb5 137 (by decide +kernel)) (by decide +kernel)
theorem vL_162 : LV RL 162 RX11 yX11_drawn cX11_drawn 5 (some .int) 3 := ⟨m_1095, m_1096, m_1097, m_1, m_1098, rfl, by decide, by decide, by decide +kernel⟩
theorem dL_law_1659 : decode cL_law 1659 = .ok (.invokevirtual 162, 3) := by decide +kernel
theorem dL_law_1662 : decode cL_law 1662 = .ok (.aload_n 2, 1) := by decide +kernel
theorem dL_law_1663 : decode cL_law 1663 = .ok (.aload_n 0, 1) := by decide +kernel
theorem dL_law_1664 : decode cL_law 1664 = .ok (.iload 4, 2) := by decide +kernel
theorem dL_law_1666 : decode cL_law 1666 = .ok (.iconst 1, 1) := by decide +kernel
theorem dL_law_1667 : decode cL_law 1667 = .ok (.iadd, 1) := by decide +kernel
theorem dL_law_1668 : decode cL_law 1668 = .ok (.iaload, 1) := by decide +kernel
theorem dL_law_1669 : decode cL_law 1669 = .ok (.aload_n 0, 1) := by decide +kernel
theorem dL_law_1670 : decode cL_law 1670 = .ok (.iload 4, 2) := by decide +kernel
theorem dL_law_1672 : decode cL_law 1672 = .ok (.iconst 2, 1) := by decide +kernel
theorem dL_law_1673 : decode cL_law 1673 = .ok (.iadd, 1) := by decide +kernel
theorem dL_law_1674 : decode cL_law 1674 = .ok (.iaload, 1) := by decide +kernel
theorem dL_law_1675 : decode cL_law 1675 = .ok (.aload_n 0, 1) := by decide +kernel
theorem dL_law_1676 : decode cL_law 1676 = .ok (.iload 4, 2) := by decide +kernel
theorem dL_law_1678 : decode cL_law 1678 = .ok (.iconst 3, 1) := by decide +kernel
theorem dL_law_1679 : decode cL_law 1679 = .ok (.iadd, 1) := by decide +kernel
theorem dL_law_1680 : decode cL_law 1680 = .ok (.iaload, 1) := by decide +kernel
theorem dL_law_1681 : decode cL_law 1681 = .ok (.i2l, 1) := by decide +kernel
theorem dL_law_1682 : decode cL_law 1682 = .ok (.bipush 32, 2) := by decide +kernel
theorem dL_law_1684 : decode cL_law 1684 = .ok (.lshl, 1) := by decide +kernel
theorem dL_law_1685 : decode cL_law 1685 = .ok (.aload_n 0, 1) := by decide +kernel
theorem dL_law_1686 : decode cL_law 1686 = .ok (.iload 4, 2) := by decide +kernel
theorem dL_law_1688 : decode cL_law 1688 = .ok (.iconst 4, 1) := by decide +kernel
theorem dL_law_1689 : decode cL_law 1689 = .ok (.iadd, 1) := by decide +kernel
theorem dL_law_1690 : decode cL_law 1690 = .ok (.iaload, 1) := by decide +kernel
theorem dL_law_1691 : decode cL_law 1691 = .ok (.i2l, 1) := by decide +kernel
theorem dL_law_1692 : decode cL_law 1692 = .ok (.ldc2_w 160, 3) := by decide +kernel
theorem dL_law_1695 : decode cL_law 1695 = .ok (.land, 1) := by decide +kernel
theorem dL_law_1696 : decode cL_law 1696 = .ok (.lor, 1) := by decide +kernel
theorem m_1768 : (Cond.methodLink "NoonValleyLaw" 166 yX12_drawn) ∈ BW := bw (tb8 88 (by decide +kernel)) (by decide +kernel)
theorem m_1769 : (Cond.instanceMethod yX12_drawn) ∈ BW := bw (tb8 89 (by decide +kernel)) (by decide +kernel)
theorem m_1770 : (Cond.selects "NoonValleyModel" yX12_drawn yX12_drawn) ∈ BW := bw (tb8 90 (by decide +kernel)) (by decide +kernel)
theorem vL_166 : LV RL 166 RX12 yX12_drawn cX12_drawn 13 (some .int) 3 := ⟨m_1768, m_1769, m_1770, m_12, m_1771, rfl, by decide, by decide, by decide +kernel⟩
theorem dL_law_1697 : decode cL_law 1697 = .ok (.invokevirtual 166, 3) := by decide +kernel
theorem dL_law_1700 : decode cL_law 1700 = .ok (.if_icmp .eq 165, 3) := by decide +kernel
theorem dL_law_1705 : decode cL_law 1705 = .ok (.aload_n 1, 1) := by decide +kernel
theorem dL_law_1706 : decode cL_law 1706 = .ok (.aload_n 0, 1) := by decide +kernel
theorem dL_law_1707 : decode cL_law 1707 = .ok (.iload 4, 2) := by decide +kernel
theorem dL_law_1709 : decode cL_law 1709 = .ok (.iconst 1, 1) := by decide +kernel
theorem dL_law_1710 : decode cL_law 1710 = .ok (.iadd, 1) := by decide +kernel
theorem dL_law_1711 : decode cL_law 1711 = .ok (.iaload, 1) := by decide +kernel
theorem dL_law_1712 : decode cL_law 1712 = .ok (.aload_n 0, 1) := by decide +kernel
theorem dL_law_1713 : decode cL_law 1713 = .ok (.iload 4, 2) := by decide +kernel
theorem dL_law_1715 : decode cL_law 1715 = .ok (.iconst 2, 1) := by decide +kernel
theorem dL_law_1716 : decode cL_law 1716 = .ok (.iadd, 1) := by decide +kernel
theorem dL_law_1717 : decode cL_law 1717 = .ok (.iaload, 1) := by decide +kernel
theorem dL_law_1718 : decode cL_law 1718 = .ok (.aload_n 0, 1) := by decide +kernel
theorem dL_law_1719 : decode cL_law 1719 = .ok (.iload 4, 2) := by decide +kernel
theorem dL_law_1721 : decode cL_law 1721 = .ok (.iconst 3, 1) := by decide +kernel
theorem dL_law_1722 : decode cL_law 1722 = .ok (.iadd, 1) := by decide +kernel
theorem dL_law_1723 : decode cL_law 1723 = .ok (.iaload, 1) := by decide +kernel
theorem dL_law_1724 : decode cL_law 1724 = .ok (.aload_n 0, 1) := by decide +kernel
theorem dL_law_1725 : decode cL_law 1725 = .ok (.iload 4, 2) := by decide +kernel
theorem dL_law_1727 : decode cL_law 1727 = .ok (.iconst 4, 1) := by decide +kernel
theorem dL_law_1728 : decode cL_law 1728 = .ok (.iadd, 1) := by decide +kernel
theorem dL_law_1729 : decode cL_law 1729 = .ok (.iaload, 1) := by decide +kernel
theorem m_1105 : (Cond.methodLink "NoonValleyLaw" 167 yX11_tale) ∈ BW := bw (tb5 145 (by decide +kernel)) (by decide +kernel)
theorem m_1106 : (Cond.instanceMethod yX11_tale) ∈ BW := bw (tb5 146 (by decide +kernel)) (by decide +kernel)
theorem m_1107 : (Cond.selects "NoonValley" yX11_tale yX11_tale) ∈ BW := bw (tb5 147 (by decide +kernel)) (by decide +kernel)
theorem vL_167 : LV RL 167 RX11 yX11_tale cX11_tale 6 (some .boolean) 4 := ⟨m_1105, m_1106, m_1107, m_1, m_1108, rfl, by decide, by decide, by decide +kernel⟩
theorem dL_law_1730 : decode cL_law 1730 = .ok (.invokevirtual 167, 3) := by decide +kernel
theorem dL_law_1733 : decode cL_law 1733 = .ok (.aload_n 2, 1) := by decide +kernel
theorem dL_law_1734 : decode cL_law 1734 = .ok (.aload_n 0, 1) := by decide +kernel
theorem dL_law_1735 : decode cL_law 1735 = .ok (.iload 4, 2) := by decide +kernel
theorem dL_law_1737 : decode cL_law 1737 = .ok (.iconst 1, 1) := by decide +kernel
theorem dL_law_1738 : decode cL_law 1738 = .ok (.iadd, 1) := by decide +kernel
theorem dL_law_1739 : decode cL_law 1739 = .ok (.iaload, 1) := by decide +kernel
theorem dL_law_1740 : decode cL_law 1740 = .ok (.aload_n 0, 1) := by decide +kernel
theorem dL_law_1741 : decode cL_law 1741 = .ok (.iload 4, 2) := by decide +kernel
theorem dL_law_1743 : decode cL_law 1743 = .ok (.iconst 2, 1) := by decide +kernel
theorem dL_law_1744 : decode cL_law 1744 = .ok (.iadd, 1) := by decide +kernel
theorem dL_law_1745 : decode cL_law 1745 = .ok (.iaload, 1) := by decide +kernel
theorem dL_law_1746 : decode cL_law 1746 = .ok (.aload_n 0, 1) := by decide +kernel
theorem dL_law_1747 : decode cL_law 1747 = .ok (.iload 4, 2) := by decide +kernel
theorem dL_law_1749 : decode cL_law 1749 = .ok (.iconst 3, 1) := by decide +kernel
theorem dL_law_1750 : decode cL_law 1750 = .ok (.iadd, 1) := by decide +kernel
theorem dL_law_1751 : decode cL_law 1751 = .ok (.iaload, 1) := by decide +kernel
theorem dL_law_1752 : decode cL_law 1752 = .ok (.aload_n 0, 1) := by decide +kernel
theorem dL_law_1753 : decode cL_law 1753 = .ok (.iload 4, 2) := by decide +kernel
theorem dL_law_1755 : decode cL_law 1755 = .ok (.iconst 4, 1) := by decide +kernel
theorem dL_law_1756 : decode cL_law 1756 = .ok (.iadd, 1) := by decide +kernel
theorem dL_law_1757 : decode cL_law 1757 = .ok (.iaload, 1) := by decide +kernel
theorem m_1774 : (Cond.methodLink "NoonValleyLaw" 171 yX12_tale) ∈ BW := bw (tb8 94 (by decide +kernel)) (by decide +kernel)
theorem m_1775 : (Cond.instanceMethod yX12_tale) ∈ BW := bw (tb8 95 (by decide +kernel)) (by decide +kernel)
theorem m_1776 : (Cond.selects "NoonValleyModel" yX12_tale yX12_tale) ∈ BW := bw (tb8 96 (by decide +kernel)) (by decide +kernel)
theorem vL_171 : LV RL 171 RX12 yX12_tale cX12_tale 5 (some .boolean) 4 := ⟨m_1774, m_1775, m_1776, m_12, m_1777, rfl, by decide, by decide, by decide +kernel⟩
theorem dL_law_1758 : decode cL_law 1758 = .ok (.invokevirtual 171, 3) := by decide +kernel
theorem dL_law_1761 : decode cL_law 1761 = .ok (.if_icmp .eq 104, 3) := by decide +kernel
theorem dL_law_1766 : decode cL_law 1766 = .ok (.aload_n 1, 1) := by decide +kernel
theorem dL_law_1767 : decode cL_law 1767 = .ok (.aload_n 0, 1) := by decide +kernel
theorem dL_law_1768 : decode cL_law 1768 = .ok (.iload 4, 2) := by decide +kernel
theorem dL_law_1770 : decode cL_law 1770 = .ok (.iconst 1, 1) := by decide +kernel
theorem dL_law_1771 : decode cL_law 1771 = .ok (.iadd, 1) := by decide +kernel
theorem dL_law_1772 : decode cL_law 1772 = .ok (.iaload, 1) := by decide +kernel
theorem dL_law_1773 : decode cL_law 1773 = .ok (.aload_n 0, 1) := by decide +kernel
theorem dL_law_1774 : decode cL_law 1774 = .ok (.iload 4, 2) := by decide +kernel
theorem dL_law_1776 : decode cL_law 1776 = .ok (.iconst 2, 1) := by decide +kernel
theorem dL_law_1777 : decode cL_law 1777 = .ok (.iadd, 1) := by decide +kernel
theorem dL_law_1778 : decode cL_law 1778 = .ok (.iaload, 1) := by decide +kernel
theorem m_1113 : (Cond.methodLink "NoonValleyLaw" 172 yX11_who) ∈ BW := bw (tb5 153 (by decide +kernel)) (by decide +kernel)
theorem m_1114 : (Cond.instanceMethod yX11_who) ∈ BW := bw (tb5 154 (by decide +kernel)) (by decide +kernel)
theorem m_1115 : (Cond.selects "NoonValley" yX11_who yX11_who) ∈ BW := bw (tb5 155 (by decide +kernel)) (by decide +kernel)
theorem vL_172 : LV RL 172 RX11 yX11_who cX11_who 6 (some .int) 2 := ⟨m_1113, m_1114, m_1115, m_1, m_1116, rfl, by decide, by decide, by decide +kernel⟩
theorem dL_law_1779 : decode cL_law 1779 = .ok (.invokevirtual 172, 3) := by decide +kernel
theorem dL_law_1782 : decode cL_law 1782 = .ok (.aload_n 2, 1) := by decide +kernel
theorem dL_law_1783 : decode cL_law 1783 = .ok (.aload_n 0, 1) := by decide +kernel
theorem dL_law_1784 : decode cL_law 1784 = .ok (.iload 4, 2) := by decide +kernel
theorem dL_law_1786 : decode cL_law 1786 = .ok (.iconst 1, 1) := by decide +kernel
theorem dL_law_1787 : decode cL_law 1787 = .ok (.iadd, 1) := by decide +kernel
theorem dL_law_1788 : decode cL_law 1788 = .ok (.iaload, 1) := by decide +kernel
theorem dL_law_1789 : decode cL_law 1789 = .ok (.aload_n 0, 1) := by decide +kernel
theorem dL_law_1790 : decode cL_law 1790 = .ok (.iload 4, 2) := by decide +kernel
theorem dL_law_1792 : decode cL_law 1792 = .ok (.iconst 2, 1) := by decide +kernel
theorem dL_law_1793 : decode cL_law 1793 = .ok (.iadd, 1) := by decide +kernel
theorem dL_law_1794 : decode cL_law 1794 = .ok (.iaload, 1) := by decide +kernel
theorem m_1778 : (Cond.methodLink "NoonValleyLaw" 175 yX12_who) ∈ BW := bw (tb8 98 (by decide +kernel)) (by decide +kernel)
theorem m_1779 : (Cond.instanceMethod yX12_who) ∈ BW := bw (tb8 99 (by decide +kernel)) (by decide +kernel)
theorem m_1780 : (Cond.selects "NoonValleyModel" yX12_who yX12_who) ∈ BW := bw (tb8 100 (by decide +kernel)) (by decide +kernel)
theorem vL_175 : LV RL 175 RX12 yX12_who cX12_who 5 (some .int) 2 := ⟨m_1778, m_1779, m_1780, m_12, m_1781, rfl, by decide, by decide, by decide +kernel⟩
theorem dL_law_1795 : decode cL_law 1795 = .ok (.invokevirtual 175, 3) := by decide +kernel
theorem dL_law_1798 : decode cL_law 1798 = .ok (.if_icmp .eq 67, 3) := by decide +kernel
theorem dL_law_1803 : decode cL_law 1803 = .ok (.aload_n 1, 1) := by decide +kernel
theorem dL_law_1804 : decode cL_law 1804 = .ok (.aload_n 0, 1) := by decide +kernel
theorem dL_law_1805 : decode cL_law 1805 = .ok (.iload 4, 2) := by decide +kernel
theorem dL_law_1807 : decode cL_law 1807 = .ok (.iconst 1, 1) := by decide +kernel
theorem dL_law_1808 : decode cL_law 1808 = .ok (.iadd, 1) := by decide +kernel
theorem dL_law_1809 : decode cL_law 1809 = .ok (.iaload, 1) := by decide +kernel
theorem dL_law_1810 : decode cL_law 1810 = .ok (.aload_n 0, 1) := by decide +kernel
theorem dL_law_1811 : decode cL_law 1811 = .ok (.iload 4, 2) := by decide +kernel
theorem dL_law_1813 : decode cL_law 1813 = .ok (.iconst 2, 1) := by decide +kernel
theorem dL_law_1814 : decode cL_law 1814 = .ok (.iadd, 1) := by decide +kernel
theorem dL_law_1815 : decode cL_law 1815 = .ok (.iaload, 1) := by decide +kernel
theorem m_1140 : (Cond.methodLink "NoonValleyLaw" 176 yX11_fits) ∈ BW := bw (tb5 180 (by decide +kernel)) (by decide +kernel)
theorem m_1141 : (Cond.instanceMethod yX11_fits) ∈ BW := bw (tb5 181 (by decide +kernel)) (by decide +kernel)
theorem m_1142 : (Cond.selects "NoonValley" yX11_fits yX11_fits) ∈ BW := bw (tb5 182 (by decide +kernel)) (by decide +kernel)
theorem vL_176 : LV RL 176 RX11 yX11_fits cX11_fits 8 (some .int) 2 := ⟨m_1140, m_1141, m_1142, m_1, m_1143, rfl, by decide, by decide, by decide +kernel⟩
theorem dL_law_1816 : decode cL_law 1816 = .ok (.invokevirtual 176, 3) := by decide +kernel
theorem dL_law_1819 : decode cL_law 1819 = .ok (.aload_n 2, 1) := by decide +kernel
theorem dL_law_1820 : decode cL_law 1820 = .ok (.aload_n 0, 1) := by decide +kernel
theorem dL_law_1821 : decode cL_law 1821 = .ok (.iload 4, 2) := by decide +kernel
theorem dL_law_1823 : decode cL_law 1823 = .ok (.iconst 1, 1) := by decide +kernel
theorem dL_law_1824 : decode cL_law 1824 = .ok (.iadd, 1) := by decide +kernel
theorem dL_law_1825 : decode cL_law 1825 = .ok (.iaload, 1) := by decide +kernel
theorem dL_law_1826 : decode cL_law 1826 = .ok (.aload_n 0, 1) := by decide +kernel
theorem dL_law_1827 : decode cL_law 1827 = .ok (.iload 4, 2) := by decide +kernel
theorem dL_law_1829 : decode cL_law 1829 = .ok (.iconst 2, 1) := by decide +kernel
theorem dL_law_1830 : decode cL_law 1830 = .ok (.iadd, 1) := by decide +kernel
theorem dL_law_1831 : decode cL_law 1831 = .ok (.iaload, 1) := by decide +kernel
theorem m_1798 : (Cond.methodLink "NoonValleyLaw" 179 yX12_fits) ∈ BW := bw (tb8 118 (by decide +kernel)) (by decide +kernel)
theorem m_1799 : (Cond.instanceMethod yX12_fits) ∈ BW := bw (tb8 119 (by decide +kernel)) (by decide +kernel)
theorem m_1800 : (Cond.selects "NoonValleyModel" yX12_fits yX12_fits) ∈ BW := bw (tb8 120 (by decide +kernel)) (by decide +kernel)
theorem vL_179 : LV RL 179 RX12 yX12_fits cX12_fits 7 (some .int) 2 := ⟨m_1798, m_1799, m_1800, m_12, m_1801, rfl, by decide, by decide, by decide +kernel⟩
theorem dL_law_1832 : decode cL_law 1832 = .ok (.invokevirtual 179, 3) := by decide +kernel
theorem dL_law_1835 : decode cL_law 1835 = .ok (.if_icmp .eq 30, 3) := by decide +kernel
theorem dL_law_1840 : decode cL_law 1840 = .ok (.aload_n 1, 1) := by decide +kernel
theorem dL_law_1841 : decode cL_law 1841 = .ok (.aload_n 0, 1) := by decide +kernel
theorem dL_law_1842 : decode cL_law 1842 = .ok (.iload 4, 2) := by decide +kernel
theorem dL_law_1844 : decode cL_law 1844 = .ok (.iconst 1, 1) := by decide +kernel
theorem dL_law_1845 : decode cL_law 1845 = .ok (.iadd, 1) := by decide +kernel
theorem dL_law_1846 : decode cL_law 1846 = .ok (.iaload, 1) := by decide +kernel
theorem m_1149 : (Cond.methodLink "NoonValleyLaw" 180 yX11_count) ∈ BW := bw (tb5 189 (by decide +kernel)) (by decide +kernel)
theorem m_1150 : (Cond.instanceMethod yX11_count) ∈ BW := bw (tb5 190 (by decide +kernel)) (by decide +kernel)
theorem m_1151 : (Cond.selects "NoonValley" yX11_count yX11_count) ∈ BW := bw (tb5 191 (by decide +kernel)) (by decide +kernel)
theorem vL_180 : LV RL 180 RX11 yX11_count cX11_count 2 (some .int) 1 := ⟨m_1149, m_1150, m_1151, m_1, m_1152, rfl, by decide, by decide, by decide +kernel⟩
theorem dL_law_1847 : decode cL_law 1847 = .ok (.invokevirtual 180, 3) := by decide +kernel
theorem dL_law_1850 : decode cL_law 1850 = .ok (.aload_n 2, 1) := by decide +kernel
theorem dL_law_1851 : decode cL_law 1851 = .ok (.aload_n 0, 1) := by decide +kernel
theorem dL_law_1852 : decode cL_law 1852 = .ok (.iload 4, 2) := by decide +kernel
theorem dL_law_1854 : decode cL_law 1854 = .ok (.iconst 1, 1) := by decide +kernel
theorem dL_law_1855 : decode cL_law 1855 = .ok (.iadd, 1) := by decide +kernel
theorem dL_law_1856 : decode cL_law 1856 = .ok (.iaload, 1) := by decide +kernel
theorem m_1802 : (Cond.methodLink "NoonValleyLaw" 183 yX12_count) ∈ BW := bw (tb8 122 (by decide +kernel)) (by decide +kernel)
theorem m_1803 : (Cond.instanceMethod yX12_count) ∈ BW := bw (tb8 123 (by decide +kernel)) (by decide +kernel)
theorem m_1804 : (Cond.selects "NoonValleyModel" yX12_count yX12_count) ∈ BW := bw (tb8 124 (by decide +kernel)) (by decide +kernel)
theorem vL_183 : LV RL 183 RX12 yX12_count cX12_count 4 (some .int) 1 := ⟨m_1802, m_1803, m_1804, m_12, m_1805, rfl, by decide, by decide, by decide +kernel⟩
theorem dL_law_1857 : decode cL_law 1857 = .ok (.invokevirtual 183, 3) := by decide +kernel
theorem dL_law_1860 : decode cL_law 1860 = .ok (.if_icmp .eq 5, 3) := by decide +kernel

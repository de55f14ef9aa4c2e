section
variable {p : Program} {l : Launch} {e : Env} {R : Room} {s : State} {m : MethodId} {args : Array Value} {below : List Frame} {meth : Method} {c : Code} {H : Heap} {locs : List Loc} {cells slots : Nat} {Q : State → Prop}
variable {cc : ByteArray} {pc nL : Nat} {ls : Array Slot} {rest : List Value} {own : String} {g : GG} {A : Nat → Prop} {ws ws' : va_W} {a : Nat}
variable {y : MethodName} {bytes : ByteArray} {maxL n d mc ms index : Nat} {ret : Option FieldType} {wc wr : va_W} {As : List Value} {C host : String} {b : Addr} {stk : List Value}
theorem c_VNv (X : CTX p l m meth c cc nL s args own g A) (hW : WD g A s H locs ws) (q0 : Nat) {ci : Nat} {fs : List Value} {T : u_T} {N : Nat} {ty : Nat → FieldType} (hc : CI ci C T N ty) (he : ws[q0]? = some (b, .inr (ci, fs))) {post : va_W → Prop} (hM : MetV l g y bytes maxL ret d mc ms (.ref b :: As) wc post) (hV : LVN own index host C y bytes maxL ret n) (isC isR : List Nat) (hC : isC.map (fun i => ws[i]?) = wc.map some) (hnC : va_nd isC = true) (hR : isR.map (fun i => ws[i]?) = wr.map some) (hnR : va_nd isR = true) (hdis : isR.all (fun i => decide (i ∉ isC)) = true) (hn : As.length = n) (hls : ls.size = nL) (hstk : stk = As.reverse ++ .ref b :: rest) (hroom : (rest.map fun v => v.category).sum ≤ 8) (hRm : d + 1 ≤ R.frames ∧ 8 + (maxL + 11) + 40 * d ≤ R.locals) (hf : cells + mc ≤ R.cells ∧ slots + ms ≤ R.slots) (hdg : decode cc pc = .ok (.invokevirtual index, 3))
    (kk : ∀ (u : va_W) (H1 : Heap) (locs1 : List Loc), post u → WD g A s H1 locs1 (wr ++ u) → W p l e R s m args below meth c H1 locs1 (cells + mc) (slots + ms) Q (F0 m (pc + 3) ls (rest))) : W p l e R s m args below meth c H locs cells slots Q (F0 m pc ls stk) := by
  have hF : ∀ q, va_A wc H.size q → A q := va_free hW.2.1 hW.2.2 X.2.2.2.2.2.2.2.1 isC hC
  exact va_callv (va_runVN (As := As) (rest := rest) ⟨X.1, X.2.1, X.2.2.1, X.2.2.2.1, X.2.2.2.2.1⟩ (hM H.size) (k_cwVN X hV hRm) ⟨PRE.blind, k_recv X hW q0 hc he, fun U hU hWm => ⟨rfl, k_pre X hW isC hC hnC U hU hWm⟩⟩ rfl hn hls hstk (lv_room hroom) hdg hf) hW.2.2 (fun q _ h => hF q h) hF (fun u t H1 locs1 ht _ hp hB _ hk1 hS => kk u H1 locs1 hp (k_back X hW isC isR hC hR hnR hdis ht hB hk1 hS))
end
theorem dX7_knownIn_0 : decode cX7_knownIn 0 = .ok (.iload_n 0, 1) := DX7_knownIn _ _ _ rfl
theorem dX7_knownIn_1 : decode cX7_knownIn 1 = .ok (.bipush 127, 2) := DX7_knownIn _ _ _ rfl
theorem dX7_knownIn_3 : decode cX7_knownIn 3 = .ok (.iand, 1) := DX7_knownIn _ _ _ rfl
theorem dX7_knownIn_4 : decode cX7_knownIn 4 = .ok (.ireturn, 1) := DX7_knownIn _ _ _ rfl
theorem dX7_onceIn_0 : decode cX7_onceIn 0 = .ok (.iload_n 0, 1) := DX7_onceIn _ _ _ rfl
theorem dX7_onceIn_1 : decode cX7_onceIn 1 = .ok (.bipush 7, 2) := DX7_onceIn _ _ _ rfl
theorem dX7_onceIn_3 : decode cX7_onceIn 3 = .ok (.ishr, 1) := DX7_onceIn _ _ _ rfl
theorem dX7_onceIn_4 : decode cX7_onceIn 4 = .ok (.bipush 127, 2) := DX7_onceIn _ _ _ rfl
theorem dX7_onceIn_6 : decode cX7_onceIn 6 = .ok (.iand, 1) := DX7_onceIn _ _ _ rfl
theorem dX7_onceIn_7 : decode cX7_onceIn 7 = .ok (.ireturn, 1) := DX7_onceIn _ _ _ rfl
theorem dX7_isDone_0 : decode cX7_isDone 0 = .ok (.aload_n 0, 1) := DX7_isDone _ _ _ rfl
theorem dX7_isDone_1 : decode cX7_isDone 1 = .ok (.getfield 75, 3) := DX7_isDone _ _ _ rfl
theorem dX7_isDone_4 : decode cX7_isDone 4 = .ok (.iload_n 1, 1) := DX7_isDone _ _ _ rfl
theorem dX7_isDone_5 : decode cX7_isDone 5 = .ok (.iconst (-1), 1) := DX7_isDone _ _ _ rfl
theorem dX7_isDone_6 : decode cX7_isDone 6 = .ok (.ixor, 1) := DX7_isDone _ _ _ rfl
theorem dX7_isDone_7 : decode cX7_isDone 7 = .ok (.iand, 1) := DX7_isDone _ _ _ rfl
theorem dX7_isDone_8 : decode cX7_isDone 8 = .ok (.ifCond .ne 7, 3) := DX7_isDone _ _ _ rfl
theorem dX7_isDone_15 : decode cX7_isDone 15 = .ok (.iconst 0, 1) := DX7_isDone _ _ _ rfl
theorem dX7_isDone_16 : decode cX7_isDone 16 = .ok (.ireturn, 1) := DX7_isDone _ _ _ rfl
theorem dX7_isDone_11 : decode cX7_isDone 11 = .ok (.iconst 1, 1) := DX7_isDone _ _ _ rfl
theorem dX7_isDone_12 : decode cX7_isDone 12 = .ok (.goto 4, 3) := DX7_isDone _ _ _ rfl
theorem dX7_understands_0 : decode cX7_understands 0 = .ok (.aload_n 0, 1) := DX7_understands _ _ _ rfl
theorem dX7_understands_1 : decode cX7_understands 1 = .ok (.getfield 61, 3) := DX7_understands _ _ _ rfl
theorem dX7_understands_4 : decode cX7_understands 4 = .ok (.iconst (-1), 1) := DX7_understands _ _ _ rfl
theorem dX7_understands_5 : decode cX7_understands 5 = .ok (.ixor, 1) := DX7_understands _ _ _ rfl
theorem dX7_understands_6 : decode cX7_understands 6 = .ok (.iload_n 1, 1) := DX7_understands _ _ _ rfl
theorem dX7_understands_7 : decode cX7_understands 7 = .ok (.invokestatic 48, 3) := DX7_understands _ _ _ rfl
theorem dX7_understands_10 : decode cX7_understands 10 = .ok (.ior, 1) := DX7_understands _ _ _ rfl
theorem dX7_understands_11 : decode cX7_understands 11 = .ok (.ireturn, 1) := DX7_understands _ _ _ rfl
theorem dX7_stateAfter_0 : decode cX7_stateAfter 0 = .ok (.iload_n 1, 1) := DX7_stateAfter _ _ _ rfl
theorem dX7_stateAfter_1 : decode cX7_stateAfter 1 = .ok (.invokestatic 44, 3) := DX7_stateAfter _ _ _ rfl
theorem dX7_stateAfter_4 : decode cX7_stateAfter 4 = .ok (.iload_n 2, 1) := DX7_stateAfter _ _ _ rfl
theorem dX7_stateAfter_5 : decode cX7_stateAfter 5 = .ok (.aload_n 0, 1) := DX7_stateAfter _ _ _ rfl
theorem dX7_stateAfter_6 : decode cX7_stateAfter 6 = .ok (.iload_n 1, 1) := DX7_stateAfter _ _ _ rfl
theorem dX7_stateAfter_7 : decode cX7_stateAfter 7 = .ok (.invokevirtual 147, 3) := DX7_stateAfter _ _ _ rfl
theorem dX7_stateAfter_10 : decode cX7_stateAfter 10 = .ok (.iand, 1) := DX7_stateAfter _ _ _ rfl
theorem dX7_stateAfter_11 : decode cX7_stateAfter 11 = .ok (.ior, 1) := DX7_stateAfter _ _ _ rfl
theorem dX7_stateAfter_12 : decode cX7_stateAfter 12 = .ok (.istore_n 3, 1) := DX7_stateAfter _ _ _ rfl
theorem dX7_stateAfter_13 : decode cX7_stateAfter 13 = .ok (.iload_n 3, 1) := DX7_stateAfter _ _ _ rfl
theorem dX7_stateAfter_14 : decode cX7_stateAfter 14 = .ok (.iload_n 1, 1) := DX7_stateAfter _ _ _ rfl
theorem dX7_stateAfter_15 : decode cX7_stateAfter 15 = .ok (.invokestatic 48, 3) := DX7_stateAfter _ _ _ rfl
theorem dX7_stateAfter_18 : decode cX7_stateAfter 18 = .ok (.iload_n 2, 1) := DX7_stateAfter _ _ _ rfl
theorem dX7_stateAfter_19 : decode cX7_stateAfter 19 = .ok (.ior, 1) := DX7_stateAfter _ _ _ rfl
theorem dX7_stateAfter_20 : decode cX7_stateAfter 20 = .ok (.iload_n 3, 1) := DX7_stateAfter _ _ _ rfl
theorem dX7_stateAfter_21 : decode cX7_stateAfter 21 = .ok (.iconst (-1), 1) := DX7_stateAfter _ _ _ rfl
theorem dX7_stateAfter_22 : decode cX7_stateAfter 22 = .ok (.ixor, 1) := DX7_stateAfter _ _ _ rfl
theorem dX7_stateAfter_23 : decode cX7_stateAfter 23 = .ok (.iand, 1) := DX7_stateAfter _ _ _ rfl
theorem dX7_stateAfter_24 : decode cX7_stateAfter 24 = .ok (.invokestatic 40, 3) := DX7_stateAfter _ _ _ rfl
theorem dX7_stateAfter_27 : decode cX7_stateAfter 27 = .ok (.ireturn, 1) := DX7_stateAfter _ _ _ rfl
theorem dX7_placeOf_0 : decode cX7_placeOf 0 = .ok (.iconst 2, 1) := DX7_placeOf _ _ _ rfl
theorem dX7_placeOf_1 : decode cX7_placeOf 1 = .ok (.aload_n 0, 1) := DX7_placeOf _ _ _ rfl
theorem dX7_placeOf_2 : decode cX7_placeOf 2 = .ok (.getfield 22, 3) := DX7_placeOf _ _ _ rfl
theorem dX7_placeOf_5 : decode cX7_placeOf 5 = .ok (.iload_n 1, 1) := DX7_placeOf _ _ _ rfl
theorem dX7_placeOf_6 : decode cX7_placeOf 6 = .ok (.invokestatic 44, 3) := DX7_placeOf _ _ _ rfl
theorem dX7_placeOf_9 : decode cX7_placeOf 9 = .ok (.iaload, 1) := DX7_placeOf _ _ _ rfl
theorem dX7_placeOf_10 : decode cX7_placeOf 10 = .ok (.imul, 1) := DX7_placeOf _ _ _ rfl
theorem dX7_placeOf_11 : decode cX7_placeOf 11 = .ok (.aload_n 0, 1) := DX7_placeOf _ _ _ rfl
theorem dX7_placeOf_12 : decode cX7_placeOf 12 = .ok (.getfield 22, 3) := DX7_placeOf _ _ _ rfl
theorem dX7_placeOf_15 : decode cX7_placeOf 15 = .ok (.iload_n 1, 1) := DX7_placeOf _ _ _ rfl
theorem dX7_placeOf_16 : decode cX7_placeOf 16 = .ok (.invokestatic 48, 3) := DX7_placeOf _ _ _ rfl
theorem dX7_placeOf_19 : decode cX7_placeOf 19 = .ok (.iaload, 1) := DX7_placeOf _ _ _ rfl
theorem dX7_placeOf_20 : decode cX7_placeOf 20 = .ok (.iadd, 1) := DX7_placeOf _ _ _ rfl
theorem dX7_placeOf_21 : decode cX7_placeOf 21 = .ok (.istore_n 2, 1) := DX7_placeOf _ _ _ rfl
theorem dX7_placeOf_22 : decode cX7_placeOf 22 = .ok (.iload_n 2, 1) := DX7_placeOf _ _ _ rfl
theorem dX7_placeOf_23 : decode cX7_placeOf 23 = .ok (.sipush 2187, 3) := DX7_placeOf _ _ _ rfl
theorem dX7_placeOf_26 : decode cX7_placeOf 26 = .ok (.if_icmp .ge 7, 3) := DX7_placeOf _ _ _ rfl
theorem dX7_placeOf_33 : decode cX7_placeOf 33 = .ok (.iconst 0, 1) := DX7_placeOf _ _ _ rfl
theorem dX7_placeOf_34 : decode cX7_placeOf 34 = .ok (.ireturn, 1) := DX7_placeOf _ _ _ rfl
theorem dX7_placeOf_29 : decode cX7_placeOf 29 = .ok (.iload_n 2, 1) := DX7_placeOf _ _ _ rfl
theorem dX7_placeOf_30 : decode cX7_placeOf 30 = .ok (.goto 4, 3) := DX7_placeOf _ _ _ rfl
theorem dX7_arrive_0 : decode cX7_arrive 0 = .ok (.aload_n 0, 1) := DX7_arrive _ _ _ rfl
theorem dX7_arrive_1 : decode cX7_arrive 1 = .ok (.iload_n 1, 1) := DX7_arrive _ _ _ rfl
theorem dX7_arrive_2 : decode cX7_arrive 2 = .ok (.invokevirtual 124, 3) := DX7_arrive _ _ _ rfl
theorem dX7_arrive_5 : decode cX7_arrive 5 = .ok (.istore_n 3, 1) := DX7_arrive _ _ _ rfl
theorem dX7_arrive_6 : decode cX7_arrive 6 = .ok (.aload_n 0, 1) := DX7_arrive _ _ _ rfl
theorem dX7_arrive_7 : decode cX7_arrive 7 = .ok (.getfield 28, 3) := DX7_arrive _ _ _ rfl
theorem dX7_arrive_10 : decode cX7_arrive 10 = .ok (.iload_n 3, 1) := DX7_arrive _ _ _ rfl
theorem dX7_arrive_11 : decode cX7_arrive 11 = .ok (.iaload, 1) := DX7_arrive _ _ _ rfl
theorem dX7_arrive_12 : decode cX7_arrive 12 = .ok (.iload_n 2, 1) := DX7_arrive _ _ _ rfl
theorem dX7_arrive_13 : decode cX7_arrive 13 = .ok (.invokestatic 77, 3) := DX7_arrive _ _ _ rfl
theorem dX7_arrive_16 : decode cX7_arrive 16 = .ok (.ifCond .ne 45, 3) := DX7_arrive _ _ _ rfl
theorem dX7_arrive_61 : decode cX7_arrive 61 = .ok (.return_, 1) := DX7_arrive _ _ _ rfl
theorem dX7_arrive_19 : decode cX7_arrive 19 = .ok (.aload_n 0, 1) := DX7_arrive _ _ _ rfl
theorem dX7_arrive_20 : decode cX7_arrive 20 = .ok (.getfield 118, 3) := DX7_arrive _ _ _ rfl
theorem dX7_arrive_23 : decode cX7_arrive 23 = .ok (.sipush 2187, 3) := DX7_arrive _ _ _ rfl
theorem dX7_arrive_26 : decode cX7_arrive 26 = .ok (.if_icmp .ge 35, 3) := DX7_arrive _ _ _ rfl
theorem dX7_arrive_29 : decode cX7_arrive 29 = .ok (.aload_n 0, 1) := DX7_arrive _ _ _ rfl
theorem dX7_arrive_30 : decode cX7_arrive 30 = .ok (.getfield 28, 3) := DX7_arrive _ _ _ rfl
theorem dX7_arrive_33 : decode cX7_arrive 33 = .ok (.iload_n 3, 1) := DX7_arrive _ _ _ rfl
theorem dX7_arrive_34 : decode cX7_arrive 34 = .ok (.dup2, 1) := DX7_arrive _ _ _ rfl
theorem dX7_arrive_35 : decode cX7_arrive 35 = .ok (.iaload, 1) := DX7_arrive _ _ _ rfl
theorem dX7_arrive_36 : decode cX7_arrive 36 = .ok (.iconst 1, 1) := DX7_arrive _ _ _ rfl
theorem dX7_arrive_37 : decode cX7_arrive 37 = .ok (.iload_n 2, 1) := DX7_arrive _ _ _ rfl
theorem dX7_arrive_38 : decode cX7_arrive 38 = .ok (.ishl, 1) := DX7_arrive _ _ _ rfl
theorem dX7_arrive_39 : decode cX7_arrive 39 = .ok (.ior, 1) := DX7_arrive _ _ _ rfl
theorem dX7_arrive_40 : decode cX7_arrive 40 = .ok (.iastore, 1) := DX7_arrive _ _ _ rfl
theorem dX7_arrive_41 : decode cX7_arrive 41 = .ok (.aload_n 0, 1) := DX7_arrive _ _ _ rfl
theorem dX7_arrive_42 : decode cX7_arrive 42 = .ok (.getfield 37, 3) := DX7_arrive _ _ _ rfl
theorem dX7_arrive_45 : decode cX7_arrive 45 = .ok (.aload_n 0, 1) := DX7_arrive _ _ _ rfl
theorem dX7_arrive_46 : decode cX7_arrive 46 = .ok (.getfield 118, 3) := DX7_arrive _ _ _ rfl
theorem dX7_arrive_49 : decode cX7_arrive 49 = .ok (.iload_n 1, 1) := DX7_arrive _ _ _ rfl
theorem dX7_arrive_50 : decode cX7_arrive 50 = .ok (.iastore, 1) := DX7_arrive _ _ _ rfl
theorem dX7_arrive_51 : decode cX7_arrive 51 = .ok (.aload_n 0, 1) := DX7_arrive _ _ _ rfl
theorem dX7_arrive_52 : decode cX7_arrive 52 = .ok (.dup, 1) := DX7_arrive _ _ _ rfl
theorem dX7_arrive_53 : decode cX7_arrive 53 = .ok (.getfield 118, 3) := DX7_arrive _ _ _ rfl
theorem dX7_arrive_56 : decode cX7_arrive 56 = .ok (.iconst 1, 1) := DX7_arrive _ _ _ rfl
theorem dX7_arrive_57 : decode cX7_arrive 57 = .ok (.iadd, 1) := DX7_arrive _ _ _ rfl
theorem dX7_arrive_58 : decode cX7_arrive 58 = .ok (.putfield 118, 3) := DX7_arrive _ _ _ rfl
theorem dX7_arriveByAll_0 : decode cX7_arriveByAll 0 = .ok (.iconst 0, 1) := DX7_arriveByAll _ _ _ rfl
theorem dX7_arriveByAll_1 : decode cX7_arriveByAll 1 = .ok (.istore 4, 2) := DX7_arriveByAll _ _ _ rfl
theorem dX7_arriveByAll_3 : decode cX7_arriveByAll 3 = .ok (.iload 4, 2) := DX7_arriveByAll _ _ _ rfl
theorem dX7_arriveByAll_5 : decode cX7_arriveByAll 5 = .ok (.aload_n 0, 1) := DX7_arriveByAll _ _ _ rfl
theorem dX7_arriveByAll_6 : decode cX7_arriveByAll 6 = .ok (.getfield 12, 3) := DX7_arriveByAll _ _ _ rfl
theorem dX7_arriveByAll_9 : decode cX7_arriveByAll 9 = .ok (.getfield 127, 3) := DX7_arriveByAll _ _ _ rfl
theorem dX7_arriveByAll_12 : decode cX7_arriveByAll 12 = .ok (.if_icmp .ge 46, 3) := DX7_arriveByAll _ _ _ rfl
theorem dX7_arriveByAll_58 : decode cX7_arriveByAll 58 = .ok (.return_, 1) := DX7_arriveByAll _ _ _ rfl
theorem dX7_arriveByAll_15 : decode cX7_arriveByAll 15 = .ok (.iload_n 3, 1) := DX7_arriveByAll _ _ _ rfl
theorem dX7_arriveByAll_16 : decode cX7_arriveByAll 16 = .ok (.aload_n 0, 1) := DX7_arriveByAll _ _ _ rfl
theorem dX7_arriveByAll_17 : decode cX7_arriveByAll 17 = .ok (.getfield 12, 3) := DX7_arriveByAll _ _ _ rfl
theorem dX7_arriveByAll_20 : decode cX7_arriveByAll 20 = .ok (.getfield 130, 3) := DX7_arriveByAll _ _ _ rfl
theorem dX7_arriveByAll_23 : decode cX7_arriveByAll 23 = .ok (.iload 4, 2) := DX7_arriveByAll _ _ _ rfl
theorem dX7_arriveByAll_25 : decode cX7_arriveByAll 25 = .ok (.iaload, 1) := DX7_arriveByAll _ _ _ rfl
theorem dX7_arriveByAll_26 : decode cX7_arriveByAll 26 = .ok (.iconst (-1), 1) := DX7_arriveByAll _ _ _ rfl
theorem dX7_arriveByAll_27 : decode cX7_arriveByAll 27 = .ok (.ixor, 1) := DX7_arriveByAll _ _ _ rfl
theorem dX7_arriveByAll_28 : decode cX7_arriveByAll 28 = .ok (.iand, 1) := DX7_arriveByAll _ _ _ rfl
theorem dX7_arriveByAll_29 : decode cX7_arriveByAll 29 = .ok (.ifCond .ne 23, 3) := DX7_arriveByAll _ _ _ rfl
theorem dX7_arriveByAll_52 : decode cX7_arriveByAll 52 = .ok (.iinc 4 1, 3) := DX7_arriveByAll _ _ _ rfl
theorem dX7_arriveByAll_55 : decode cX7_arriveByAll 55 = .ok (.goto (-52), 3) := DX7_arriveByAll _ _ _ rfl
theorem dX7_arriveByAll_32 : decode cX7_arriveByAll 32 = .ok (.aload_n 0, 1) := DX7_arriveByAll _ _ _ rfl
theorem dX7_arriveByAll_33 : decode cX7_arriveByAll 33 = .ok (.aload_n 0, 1) := DX7_arriveByAll _ _ _ rfl
theorem dX7_arriveByAll_34 : decode cX7_arriveByAll 34 = .ok (.iload_n 1, 1) := DX7_arriveByAll _ _ _ rfl
theorem dX7_arriveByAll_35 : decode cX7_arriveByAll 35 = .ok (.aload_n 0, 1) := DX7_arriveByAll _ _ _ rfl
theorem dX7_arriveByAll_36 : decode cX7_arriveByAll 36 = .ok (.getfield 12, 3) := DX7_arriveByAll _ _ _ rfl
theorem dX7_arriveByAll_39 : decode cX7_arriveByAll 39 = .ok (.getfield 130, 3) := DX7_arriveByAll _ _ _ rfl
theorem dX7_arriveByAll_42 : decode cX7_arriveByAll 42 = .ok (.iload 4, 2) := DX7_arriveByAll _ _ _ rfl
theorem dX7_arriveByAll_44 : decode cX7_arriveByAll 44 = .ok (.iaload, 1) := DX7_arriveByAll _ _ _ rfl
theorem dX7_arriveByAll_45 : decode cX7_arriveByAll 45 = .ok (.invokevirtual 133, 3) := DX7_arriveByAll _ _ _ rfl
theorem dX7_arriveByAll_48 : decode cX7_arriveByAll 48 = .ok (.iload_n 2, 1) := DX7_arriveByAll _ _ _ rfl
theorem dX7_arriveByAll_49 : decode cX7_arriveByAll 49 = .ok (.invokevirtual 121, 3) := DX7_arriveByAll _ _ _ rfl
theorem dX7_findRows_0 : decode cX7_findRows 0 = .ok (.iload_n 1, 1) := DX7_findRows _ _ _ rfl
theorem dX7_findRows_1 : decode cX7_findRows 1 = .ok (.invokestatic 44, 3) := DX7_findRows _ _ _ rfl
theorem dX7_findRows_4 : decode cX7_findRows 4 = .ok (.istore 4, 2) := DX7_findRows _ _ _ rfl
theorem dX7_findRows_6 : decode cX7_findRows 6 = .ok (.aload_n 0, 1) := DX7_findRows _ _ _ rfl
theorem dX7_findRows_7 : decode cX7_findRows 7 = .ok (.getfield 12, 3) := DX7_findRows _ _ _ rfl
theorem dX7_findRows_10 : decode cX7_findRows 10 = .ok (.invokevirtual 136, 3) := DX7_findRows _ _ _ rfl
theorem dX7_findRows_13 : decode cX7_findRows 13 = .ok (.iconst 0, 1) := DX7_findRows _ _ _ rfl
theorem dX7_findRows_14 : decode cX7_findRows 14 = .ok (.istore 5, 2) := DX7_findRows _ _ _ rfl
theorem dX7_findRows_16 : decode cX7_findRows 16 = .ok (.iload 5, 2) := DX7_findRows _ _ _ rfl
theorem dX7_findRows_18 : decode cX7_findRows 18 = .ok (.aload_n 0, 1) := DX7_findRows _ _ _ rfl
theorem dX7_findRows_19 : decode cX7_findRows 19 = .ok (.getfield 57, 3) := DX7_findRows _ _ _ rfl
theorem dX7_findRows_22 : decode cX7_findRows 22 = .ok (.if_icmp .ge 49, 3) := DX7_findRows _ _ _ rfl
theorem dX7_findRows_71 : decode cX7_findRows 71 = .ok (.aload_n 0, 1) := DX7_findRows _ _ _ rfl
theorem dX7_findRows_72 : decode cX7_findRows 72 = .ok (.getfield 12, 3) := DX7_findRows _ _ _ rfl
theorem dX7_findRows_75 : decode cX7_findRows 75 = .ok (.iconst 0, 1) := DX7_findRows _ _ _ rfl
theorem dX7_findRows_76 : decode cX7_findRows 76 = .ok (.iconst 0, 1) := DX7_findRows _ _ _ rfl
theorem dX7_findRows_77 : decode cX7_findRows 77 = .ok (.iconst 0, 1) := DX7_findRows _ _ _ rfl
theorem dX7_findRows_78 : decode cX7_findRows 78 = .ok (.iconst 0, 1) := DX7_findRows _ _ _ rfl
theorem dX7_findRows_79 : decode cX7_findRows 79 = .ok (.invokevirtual 143, 3) := DX7_findRows _ _ _ rfl
theorem dX7_findRows_82 : decode cX7_findRows 82 = .ok (.return_, 1) := DX7_findRows _ _ _ rfl
theorem dX7_findRows_25 : decode cX7_findRows 25 = .ok (.aload_n 0, 1) := DX7_findRows _ _ _ rfl
theorem dX7_findRows_26 : decode cX7_findRows 26 = .ok (.getfield 12, 3) := DX7_findRows _ _ _ rfl
theorem dX7_findRows_29 : decode cX7_findRows 29 = .ok (.iload 4, 2) := DX7_findRows _ _ _ rfl
theorem dX7_findRows_31 : decode cX7_findRows 31 = .ok (.iload 5, 2) := DX7_findRows _ _ _ rfl
theorem dX7_findRows_33 : decode cX7_findRows 33 = .ok (.invokestatic 77, 3) := DX7_findRows _ _ _ rfl
theorem dX7_findRows_36 : decode cX7_findRows 36 = .ok (.ifCond .eq 25, 3) := DX7_findRows _ _ _ rfl
theorem dX7_findRows_61 : decode cX7_findRows 61 = .ok (.iconst 0, 1) := DX7_findRows _ _ _ rfl
theorem dX7_findRows_62 : decode cX7_findRows 62 = .ok (.invokevirtual 139, 3) := DX7_findRows _ _ _ rfl
theorem dX7_findRows_65 : decode cX7_findRows 65 = .ok (.iinc 5 1, 3) := DX7_findRows _ _ _ rfl
theorem dX7_findRows_68 : decode cX7_findRows 68 = .ok (.goto (-52), 3) := DX7_findRows _ _ _ rfl
theorem dX7_findRows_39 : decode cX7_findRows 39 = .ok (.aload_n 0, 1) := DX7_findRows _ _ _ rfl
theorem dX7_findRows_40 : decode cX7_findRows 40 = .ok (.getfield 18, 3) := DX7_findRows _ _ _ rfl
theorem dX7_findRows_43 : decode cX7_findRows 43 = .ok (.iload_n 2, 1) := DX7_findRows _ _ _ rfl
theorem dX7_findRows_44 : decode cX7_findRows 44 = .ok (.bipush 7, 2) := DX7_findRows _ _ _ rfl
theorem dX7_findRows_46 : decode cX7_findRows 46 = .ok (.imul, 1) := DX7_findRows _ _ _ rfl
theorem dX7_findRows_47 : decode cX7_findRows 47 = .ok (.iload 5, 2) := DX7_findRows _ _ _ rfl
theorem dX7_findRows_49 : decode cX7_findRows 49 = .ok (.iadd, 1) := DX7_findRows _ _ _ rfl
theorem dX7_findRows_50 : decode cX7_findRows 50 = .ok (.iaload, 1) := DX7_findRows _ _ _ rfl
theorem dX7_findRows_51 : decode cX7_findRows 51 = .ok (.iload_n 3, 1) := DX7_findRows _ _ _ rfl
theorem dX7_findRows_52 : decode cX7_findRows 52 = .ok (.iand, 1) := DX7_findRows _ _ _ rfl
theorem dX7_findRows_53 : decode cX7_findRows 53 = .ok (.iload 4, 2) := DX7_findRows _ _ _ rfl
theorem dX7_findRows_55 : decode cX7_findRows 55 = .ok (.iconst (-1), 1) := DX7_findRows _ _ _ rfl
theorem dX7_findRows_56 : decode cX7_findRows 56 = .ok (.ixor, 1) := DX7_findRows _ _ _ rfl
theorem dX7_findRows_57 : decode cX7_findRows 57 = .ok (.iand, 1) := DX7_findRows _ _ _ rfl
theorem dX7_findRows_58 : decode cX7_findRows 58 = .ok (.goto 4, 3) := DX7_findRows _ _ _ rfl
theorem dX7_swap_0 : decode cX7_swap 0 = .ok (.aload_n 0, 1) := DX7_swap _ _ _ rfl
theorem dX7_swap_1 : decode cX7_swap 1 = .ok (.getfield 34, 3) := DX7_swap _ _ _ rfl
theorem dX7_swap_4 : decode cX7_swap 4 = .ok (.astore_n 1, 1) := DX7_swap _ _ _ rfl
theorem dX7_swap_5 : decode cX7_swap 5 = .ok (.aload_n 0, 1) := DX7_swap _ _ _ rfl
theorem dX7_swap_6 : decode cX7_swap 6 = .ok (.aload_n 0, 1) := DX7_swap _ _ _ rfl
theorem dX7_swap_7 : decode cX7_swap 7 = .ok (.getfield 37, 3) := DX7_swap _ _ _ rfl
theorem dX7_swap_10 : decode cX7_swap 10 = .ok (.putfield 34, 3) := DX7_swap _ _ _ rfl
theorem dX7_swap_13 : decode cX7_swap 13 = .ok (.aload_n 0, 1) := DX7_swap _ _ _ rfl
theorem dX7_swap_14 : decode cX7_swap 14 = .ok (.aload_n 1, 1) := DX7_swap _ _ _ rfl
theorem dX7_swap_15 : decode cX7_swap 15 = .ok (.putfield 37, 3) := DX7_swap _ _ _ rfl
theorem dX7_swap_18 : decode cX7_swap 18 = .ok (.aload_n 0, 1) := DX7_swap _ _ _ rfl
theorem dX7_swap_19 : decode cX7_swap 19 = .ok (.aload_n 0, 1) := DX7_swap _ _ _ rfl
theorem dX7_swap_20 : decode cX7_swap 20 = .ok (.getfield 118, 3) := DX7_swap _ _ _ rfl
theorem dX7_swap_23 : decode cX7_swap 23 = .ok (.putfield 95, 3) := DX7_swap _ _ _ rfl
theorem dX7_swap_26 : decode cX7_swap 26 = .ok (.aload_n 0, 1) := DX7_swap _ _ _ rfl
theorem dX7_swap_27 : decode cX7_swap 27 = .ok (.iconst 0, 1) := DX7_swap _ _ _ rfl
theorem dX7_swap_28 : decode cX7_swap 28 = .ok (.putfield 118, 3) := DX7_swap _ _ _ rfl
theorem dX7_swap_31 : decode cX7_swap 31 = .ok (.return_, 1) := DX7_swap _ _ _ rfl
theorem dX7_begin_0 : decode cX7_begin 0 = .ok (.aload_n 0, 1) := DX7_begin _ _ _ rfl
theorem dX7_begin_1 : decode cX7_begin 1 = .ok (.getfield 28, 3) := DX7_begin _ _ _ rfl
theorem dX7_begin_4 : decode cX7_begin 4 = .ok (.iconst 0, 1) := DX7_begin _ _ _ rfl
theorem dX7_begin_5 : decode cX7_begin 5 = .ok (.invokestatic 112, 3) := DX7_begin _ _ _ rfl
theorem dX7_begin_8 : decode cX7_begin 8 = .ok (.aload_n 0, 1) := DX7_begin _ _ _ rfl
theorem dX7_begin_9 : decode cX7_begin 9 = .ok (.iconst 0, 1) := DX7_begin _ _ _ rfl
theorem dX7_begin_10 : decode cX7_begin 10 = .ok (.putfield 95, 3) := DX7_begin _ _ _ rfl
theorem dX7_begin_13 : decode cX7_begin 13 = .ok (.aload_n 0, 1) := DX7_begin _ _ _ rfl
theorem dX7_begin_14 : decode cX7_begin 14 = .ok (.iconst 0, 1) := DX7_begin _ _ _ rfl
theorem dX7_begin_15 : decode cX7_begin 15 = .ok (.putfield 118, 3) := DX7_begin _ _ _ rfl
theorem dX7_begin_18 : decode cX7_begin 18 = .ok (.aload_n 0, 1) := DX7_begin _ _ _ rfl
theorem dX7_begin_19 : decode cX7_begin 19 = .ok (.iload_n 1, 1) := DX7_begin _ _ _ rfl
theorem dX7_begin_20 : decode cX7_begin 20 = .ok (.iload_n 2, 1) := DX7_begin _ _ _ rfl
theorem dX7_begin_21 : decode cX7_begin 21 = .ok (.invokestatic 40, 3) := DX7_begin _ _ _ rfl
theorem dX7_begin_24 : decode cX7_begin 24 = .ok (.iconst 0, 1) := DX7_begin _ _ _ rfl
theorem dX7_begin_25 : decode cX7_begin 25 = .ok (.invokevirtual 121, 3) := DX7_begin _ _ _ rfl
theorem dX7_begin_28 : decode cX7_begin 28 = .ok (.aload_n 0, 1) := DX7_begin _ _ _ rfl
theorem dX7_begin_29 : decode cX7_begin 29 = .ok (.invokevirtual 105, 3) := DX7_begin _ _ _ rfl
theorem dX7_begin_32 : decode cX7_begin 32 = .ok (.return_, 1) := DX7_begin _ _ _ rfl
theorem dX7_isDoneInOne_0 : decode cX7_isDoneInOne 0 = .ok (.iconst 0, 1) := DX7_isDoneInOne _ _ _ rfl
theorem dX7_isDoneInOne_1 : decode cX7_isDoneInOne 1 = .ok (.istore_n 1, 1) := DX7_isDoneInOne _ _ _ rfl
theorem dX7_isDoneInOne_2 : decode cX7_isDoneInOne 2 = .ok (.iload_n 1, 1) := DX7_isDoneInOne _ _ _ rfl
theorem dX7_isDoneInOne_3 : decode cX7_isDoneInOne 3 = .ok (.aload_n 0, 1) := DX7_isDoneInOne _ _ _ rfl
theorem dX7_isDoneInOne_4 : decode cX7_isDoneInOne 4 = .ok (.getfield 95, 3) := DX7_isDoneInOne _ _ _ rfl
theorem dX7_isDoneInOne_7 : decode cX7_isDoneInOne 7 = .ok (.if_icmp .ge 27, 3) := DX7_isDoneInOne _ _ _ rfl
theorem dX7_isDoneInOne_34 : decode cX7_isDoneInOne 34 = .ok (.iconst 0, 1) := DX7_isDoneInOne _ _ _ rfl
theorem dX7_isDoneInOne_35 : decode cX7_isDoneInOne 35 = .ok (.ireturn, 1) := DX7_isDoneInOne _ _ _ rfl
theorem dX7_isDoneInOne_10 : decode cX7_isDoneInOne 10 = .ok (.aload_n 0, 1) := DX7_isDoneInOne _ _ _ rfl
theorem dX7_isDoneInOne_11 : decode cX7_isDoneInOne 11 = .ok (.aload_n 0, 1) := DX7_isDoneInOne _ _ _ rfl
theorem dX7_isDoneInOne_12 : decode cX7_isDoneInOne 12 = .ok (.getfield 34, 3) := DX7_isDoneInOne _ _ _ rfl
theorem dX7_isDoneInOne_15 : decode cX7_isDoneInOne 15 = .ok (.iload_n 1, 1) := DX7_isDoneInOne _ _ _ rfl
theorem dX7_isDoneInOne_16 : decode cX7_isDoneInOne 16 = .ok (.iaload, 1) := DX7_isDoneInOne _ _ _ rfl
theorem dX7_isDoneInOne_17 : decode cX7_isDoneInOne 17 = .ok (.invokestatic 44, 3) := DX7_isDoneInOne _ _ _ rfl
theorem dX7_isDoneInOne_20 : decode cX7_isDoneInOne 20 = .ok (.invokevirtual 87, 3) := DX7_isDoneInOne _ _ _ rfl
theorem dX7_isDoneInOne_23 : decode cX7_isDoneInOne 23 = .ok (.ifCond .eq 5, 3) := DX7_isDoneInOne _ _ _ rfl
theorem dX7_isDoneInOne_28 : decode cX7_isDoneInOne 28 = .ok (.iinc 1 1, 3) := DX7_isDoneInOne _ _ _ rfl
theorem dX7_isDoneInOne_31 : decode cX7_isDoneInOne 31 = .ok (.goto (-29), 3) := DX7_isDoneInOne _ _ _ rfl
theorem dX7_isDoneInOne_26 : decode cX7_isDoneInOne 26 = .ok (.iconst 1, 1) := DX7_isDoneInOne _ _ _ rfl
theorem dX7_isDoneInOne_27 : decode cX7_isDoneInOne 27 = .ok (.ireturn, 1) := DX7_isDoneInOne _ _ _ rfl
theorem dX7_comeToBy_0 : decode cX7_comeToBy 0 = .ok (.iload_n 1, 1) := DX7_comeToBy _ _ _ rfl
theorem dX7_comeToBy_1 : decode cX7_comeToBy 1 = .ok (.istore 4, 2) := DX7_comeToBy _ _ _ rfl
theorem dX7_comeToBy_3 : decode cX7_comeToBy 3 = .ok (.iload_n 2, 1) := DX7_comeToBy _ _ _ rfl
theorem dX7_comeToBy_4 : decode cX7_comeToBy 4 = .ok (.istore 5, 2) := DX7_comeToBy _ _ _ rfl
theorem dX7_comeToBy_6 : decode cX7_comeToBy 6 = .ok (.iload 5, 2) := DX7_comeToBy _ _ _ rfl
theorem dX7_comeToBy_8 : decode cX7_comeToBy 8 = .ok (.iload_n 3, 1) := DX7_comeToBy _ _ _ rfl
theorem dX7_comeToBy_9 : decode cX7_comeToBy 9 = .ok (.if_icmp .gt 19, 3) := DX7_comeToBy _ _ _ rfl
theorem dX7_comeToBy_28 : decode cX7_comeToBy 28 = .ok (.iload 4, 2) := DX7_comeToBy _ _ _ rfl
theorem dX7_comeToBy_30 : decode cX7_comeToBy 30 = .ok (.ireturn, 1) := DX7_comeToBy _ _ _ rfl
theorem dX7_comeToBy_12 : decode cX7_comeToBy 12 = .ok (.aload_n 0, 1) := DX7_comeToBy _ _ _ rfl
theorem dX7_comeToBy_13 : decode cX7_comeToBy 13 = .ok (.iload 4, 2) := DX7_comeToBy _ _ _ rfl
theorem dX7_comeToBy_15 : decode cX7_comeToBy 15 = .ok (.iload 5, 2) := DX7_comeToBy _ _ _ rfl
theorem dX7_comeToBy_17 : decode cX7_comeToBy 17 = .ok (.invokevirtual 150, 3) := DX7_comeToBy _ _ _ rfl
theorem dX7_comeToBy_20 : decode cX7_comeToBy 20 = .ok (.istore 4, 2) := DX7_comeToBy _ _ _ rfl
theorem dX7_comeToBy_22 : decode cX7_comeToBy 22 = .ok (.iinc 5 1, 3) := DX7_comeToBy _ _ _ rfl
theorem dX7_comeToBy_25 : decode cX7_comeToBy 25 = .ok (.goto (-19), 3) := DX7_comeToBy _ _ _ rfl
theorem dX7_leastHours_0 : decode cX7_leastHours 0 = .ok (.aload_n 0, 1) := DX7_leastHours _ _ _ rfl
theorem dX7_leastHours_1 : decode cX7_leastHours 1 = .ok (.iload_n 1, 1) := DX7_leastHours _ _ _ rfl
theorem dX7_leastHours_2 : decode cX7_leastHours 2 = .ok (.iload_n 2, 1) := DX7_leastHours _ _ _ rfl
theorem dX7_leastHours_3 : decode cX7_leastHours 3 = .ok (.invokevirtual 83, 3) := DX7_leastHours _ _ _ rfl
theorem dX7_leastHours_6 : decode cX7_leastHours 6 = .ok (.aload_n 0, 1) := DX7_leastHours _ _ _ rfl
theorem dX7_leastHours_7 : decode cX7_leastHours 7 = .ok (.iload_n 1, 1) := DX7_leastHours _ _ _ rfl
theorem dX7_leastHours_8 : decode cX7_leastHours 8 = .ok (.invokevirtual 87, 3) := DX7_leastHours _ _ _ rfl
theorem dX7_leastHours_11 : decode cX7_leastHours 11 = .ok (.ifCond .eq 5, 3) := DX7_leastHours _ _ _ rfl
theorem dX7_leastHours_16 : decode cX7_leastHours 16 = .ok (.aload_n 0, 1) := DX7_leastHours _ _ _ rfl
theorem dX7_leastHours_17 : decode cX7_leastHours 17 = .ok (.aload_n 0, 1) := DX7_leastHours _ _ _ rfl
theorem dX7_leastHours_18 : decode cX7_leastHours 18 = .ok (.iload_n 1, 1) := DX7_leastHours _ _ _ rfl
theorem dX7_leastHours_19 : decode cX7_leastHours 19 = .ok (.iload_n 3, 1) := DX7_leastHours _ _ _ rfl
theorem dX7_leastHours_20 : decode cX7_leastHours 20 = .ok (.bipush 24, 2) := DX7_leastHours _ _ _ rfl
theorem dX7_leastHours_22 : decode cX7_leastHours 22 = .ok (.invokevirtual 91, 3) := DX7_leastHours _ _ _ rfl
theorem dX7_leastHours_25 : decode cX7_leastHours 25 = .ok (.invokevirtual 87, 3) := DX7_leastHours _ _ _ rfl
theorem dX7_leastHours_28 : decode cX7_leastHours 28 = .ok (.ifCond .ne 5, 3) := DX7_leastHours _ _ _ rfl
theorem dX7_leastHours_33 : decode cX7_leastHours 33 = .ok (.iload_n 3, 1) := DX7_leastHours _ _ _ rfl
theorem dX7_leastHours_34 : decode cX7_leastHours 34 = .ok (.istore 4, 2) := DX7_leastHours _ _ _ rfl
theorem dX7_leastHours_36 : decode cX7_leastHours 36 = .ok (.iload 4, 2) := DX7_leastHours _ _ _ rfl
theorem dX7_leastHours_38 : decode cX7_leastHours 38 = .ok (.bipush 24, 2) := DX7_leastHours _ _ _ rfl
theorem dX7_leastHours_40 : decode cX7_leastHours 40 = .ok (.if_icmp .gt 80, 3) := DX7_leastHours _ _ _ rfl
theorem dX7_leastHours_120 : decode cX7_leastHours 120 = .ok (.iconst (-1), 1) := DX7_leastHours _ _ _ rfl
theorem dX7_leastHours_121 : decode cX7_leastHours 121 = .ok (.ireturn, 1) := DX7_leastHours _ _ _ rfl
theorem dX7_leastHours_43 : decode cX7_leastHours 43 = .ok (.iload 4, 2) := DX7_leastHours _ _ _ rfl
theorem dX7_leastHours_45 : decode cX7_leastHours 45 = .ok (.iload_n 3, 1) := DX7_leastHours _ _ _ rfl
theorem dX7_leastHours_46 : decode cX7_leastHours 46 = .ok (.isub, 1) := DX7_leastHours _ _ _ rfl
theorem dX7_leastHours_47 : decode cX7_leastHours 47 = .ok (.iconst 1, 1) := DX7_leastHours _ _ _ rfl
theorem dX7_leastHours_48 : decode cX7_leastHours 48 = .ok (.iadd, 1) := DX7_leastHours _ _ _ rfl
theorem dX7_leastHours_49 : decode cX7_leastHours 49 = .ok (.istore 5, 2) := DX7_leastHours _ _ _ rfl
theorem dX7_leastHours_51 : decode cX7_leastHours 51 = .ok (.iconst 0, 1) := DX7_leastHours _ _ _ rfl
theorem dX7_leastHours_52 : decode cX7_leastHours 52 = .ok (.istore 6, 2) := DX7_leastHours _ _ _ rfl
theorem dX7_leastHours_54 : decode cX7_leastHours 54 = .ok (.iload 6, 2) := DX7_leastHours _ _ _ rfl
theorem dX7_leastHours_56 : decode cX7_leastHours 56 = .ok (.aload_n 0, 1) := DX7_leastHours _ _ _ rfl
theorem dX7_leastHours_57 : decode cX7_leastHours 57 = .ok (.getfield 95, 3) := DX7_leastHours _ _ _ rfl
theorem dX7_leastHours_60 : decode cX7_leastHours 60 = .ok (.if_icmp .ge 40, 3) := DX7_leastHours _ _ _ rfl
theorem dX7_leastHours_100 : decode cX7_leastHours 100 = .ok (.aload_n 0, 1) := DX7_leastHours _ _ _ rfl
theorem dX7_leastHours_101 : decode cX7_leastHours 101 = .ok (.invokevirtual 105, 3) := DX7_leastHours _ _ _ rfl
theorem dX7_leastHours_104 : decode cX7_leastHours 104 = .ok (.aload_n 0, 1) := DX7_leastHours _ _ _ rfl
theorem dX7_leastHours_105 : decode cX7_leastHours 105 = .ok (.invokevirtual 108, 3) := DX7_leastHours _ _ _ rfl
theorem dX7_leastHours_108 : decode cX7_leastHours 108 = .ok (.ifCond .eq 6, 3) := DX7_leastHours _ _ _ rfl
theorem dX7_leastHours_114 : decode cX7_leastHours 114 = .ok (.iinc 4 1, 3) := DX7_leastHours _ _ _ rfl
theorem dX7_leastHours_117 : decode cX7_leastHours 117 = .ok (.goto (-81), 3) := DX7_leastHours _ _ _ rfl
theorem dX7_leastHours_111 : decode cX7_leastHours 111 = .ok (.iload 5, 2) := DX7_leastHours _ _ _ rfl
theorem dX7_leastHours_113 : decode cX7_leastHours 113 = .ok (.ireturn, 1) := DX7_leastHours _ _ _ rfl
theorem dX7_leastHours_63 : decode cX7_leastHours 63 = .ok (.aload_n 0, 1) := DX7_leastHours _ _ _ rfl
theorem dX7_leastHours_64 : decode cX7_leastHours 64 = .ok (.aload_n 0, 1) := DX7_leastHours _ _ _ rfl
theorem dX7_leastHours_65 : decode cX7_leastHours 65 = .ok (.getfield 34, 3) := DX7_leastHours _ _ _ rfl
theorem dX7_leastHours_68 : decode cX7_leastHours 68 = .ok (.iload 6, 2) := DX7_leastHours _ _ _ rfl
theorem dX7_leastHours_70 : decode cX7_leastHours 70 = .ok (.iaload, 1) := DX7_leastHours _ _ _ rfl
theorem dX7_leastHours_71 : decode cX7_leastHours 71 = .ok (.iload 4, 2) := DX7_leastHours _ _ _ rfl
theorem dX7_leastHours_73 : decode cX7_leastHours 73 = .ok (.aload_n 0, 1) := DX7_leastHours _ _ _ rfl
theorem dX7_leastHours_74 : decode cX7_leastHours 74 = .ok (.getfield 69, 3) := DX7_leastHours _ _ _ rfl
theorem dX7_leastHours_77 : decode cX7_leastHours 77 = .ok (.invokevirtual 98, 3) := DX7_leastHours _ _ _ rfl
theorem dX7_leastHours_80 : decode cX7_leastHours 80 = .ok (.aload_n 0, 1) := DX7_leastHours _ _ _ rfl
theorem dX7_leastHours_81 : decode cX7_leastHours 81 = .ok (.aload_n 0, 1) := DX7_leastHours _ _ _ rfl
theorem dX7_leastHours_82 : decode cX7_leastHours 82 = .ok (.getfield 34, 3) := DX7_leastHours _ _ _ rfl
theorem dX7_leastHours_85 : decode cX7_leastHours 85 = .ok (.iload 6, 2) := DX7_leastHours _ _ _ rfl
theorem dX7_leastHours_87 : decode cX7_leastHours 87 = .ok (.iaload, 1) := DX7_leastHours _ _ _ rfl
theorem dX7_leastHours_88 : decode cX7_leastHours 88 = .ok (.iload 5, 2) := DX7_leastHours _ _ _ rfl
theorem dX7_leastHours_90 : decode cX7_leastHours 90 = .ok (.iconst 0, 1) := DX7_leastHours _ _ _ rfl
theorem dX7_leastHours_91 : decode cX7_leastHours 91 = .ok (.invokevirtual 102, 3) := DX7_leastHours _ _ _ rfl
theorem dX7_leastHours_94 : decode cX7_leastHours 94 = .ok (.iinc 6 1, 3) := DX7_leastHours _ _ _ rfl
theorem dX7_leastHours_97 : decode cX7_leastHours 97 = .ok (.goto (-43), 3) := DX7_leastHours _ _ _ rfl
theorem dX7_leastHours_31 : decode cX7_leastHours 31 = .ok (.iconst (-1), 1) := DX7_leastHours _ _ _ rfl
theorem dX7_leastHours_32 : decode cX7_leastHours 32 = .ok (.ireturn, 1) := DX7_leastHours _ _ _ rfl
theorem dX7_leastHours_14 : decode cX7_leastHours 14 = .ok (.iconst 0, 1) := DX7_leastHours _ _ _ rfl
theorem dX7_leastHours_15 : decode cX7_leastHours 15 = .ok (.ireturn, 1) := DX7_leastHours _ _ _ rfl
def F_X7_knownIn (x : Int32) : Int32 := x &&& (127 : Int32)
set_option maxHeartbeats 4000000 in
set_option maxRecDepth 100000 in
theorem K_X7_knownIn (l : Launch) (g : GG) (x : Int32)  : MetI l g yX7_knownIn cX7_knownIn 1 (some .int) 0 0 0 [.int x] [] (fun r u => r = (F_X7_knownIn x) ∧ u = []) := by
  refine MetI.of (own := RX7) rfl (by decide) (Nat.le_of_ble_eq_true rfl) ?_
  intro p e s m below meth c A ls args Q hQ X hr hin hW hl
  have hx := X.1
  have hb := X.2.1
  have hl : lv_has ls 1 [(0, .int x)] := hl
  refine lv_iload_n (pc := 0) hx hb dX7_knownIn_0 rfl (lv_at hl 0 rfl) ?_
  refine lv_bipush (v := 127) (pc := 1) hx hb dX7_knownIn_1 (by decide) ?_
  refine lv_iand (pc := 3) hx hb dX7_knownIn_3 ?_
  have hF : F_X7_knownIn x = x &&& (127 : Int32) := show F_X7_knownIn x = x &&& (127 : Int32) from rfl
  exact e_i (u := []) X hQ hr (hW) [] rfl rfl (⟨hF.symm, rfl⟩) ⟨Nat.le_of_ble_eq_true rfl, Nat.le_of_ble_eq_true rfl⟩ dX7_knownIn_4

def F_X7_onceIn (x : Int32) : Int32 := (x >>> ((7 : Int32) &&& 31)) &&& (127 : Int32)
set_option maxHeartbeats 4000000 in
set_option maxRecDepth 100000 in
theorem K_X7_onceIn (l : Launch) (g : GG) (x : Int32)  : MetI l g yX7_onceIn cX7_onceIn 1 (some .int) 0 0 0 [.int x] [] (fun r u => r = (F_X7_onceIn x) ∧ u = []) := by
  refine MetI.of (own := RX7) rfl (by decide) (Nat.le_of_ble_eq_true rfl) ?_
  intro p e s m below meth c A ls args Q hQ X hr hin hW hl
  have hx := X.1
  have hb := X.2.1
  have hl : lv_has ls 1 [(0, .int x)] := hl
  refine lv_iload_n (pc := 0) hx hb dX7_onceIn_0 rfl (lv_at hl 0 rfl) ?_
  refine lv_bipush (v := 7) (pc := 1) hx hb dX7_onceIn_1 (by decide) ?_
  refine lv_ishr (pc := 3) hx hb dX7_onceIn_3 ?_
  refine lv_bipush (v := 127) (pc := 4) hx hb dX7_onceIn_4 (by decide) ?_
  refine lv_iand (pc := 6) hx hb dX7_onceIn_6 ?_
  have hF : F_X7_onceIn x = (x >>> ((7 : Int32) &&& 31)) &&& (127 : Int32) := show F_X7_onceIn x = (x >>> ((7 : Int32) &&& 31)) &&& (127 : Int32) from rfl
  exact e_i (u := []) X hQ hr (hW) [] rfl rfl (⟨hF.symm, rfl⟩) ⟨Nat.le_of_ble_eq_true rfl, Nat.le_of_ble_eq_true rfl⟩ dX7_onceIn_7

def F_X7_state (x : Int32) (y : Int32) : Int32 := x ||| (y <<< ((7 : Int32) &&& 31))
set_option maxHeartbeats 4000000 in
set_option maxRecDepth 100000 in
theorem K_X7_state (l : Launch) (g : GG) (x : Int32) (y : Int32)  : MetI l g yX7_state cX7_state 2 (some .int) 0 0 0 [.int x, .int y] [] (fun r u => r = (F_X7_state x y) ∧ u = []) := by
  refine MetI.of (own := RX7) rfl (by decide) (Nat.le_of_ble_eq_true rfl) ?_
  intro p e s m below meth c A ls args Q hQ X hr hin hW hl
  have hx := X.1
  have hb := X.2.1
  have hl : lv_has ls 2 [(0, .int x), (1, .int y)] := hl
  refine lv_iload_n (pc := 0) hx hb dX7_state_0 rfl (lv_at hl 0 rfl) ?_
  refine lv_iload_n (pc := 1) hx hb dX7_state_1 rfl (lv_at hl 1 rfl) ?_
  refine lv_bipush (v := 7) (pc := 2) hx hb dX7_state_2 (by decide) ?_
  refine lv_ishl (pc := 4) hx hb dX7_state_4 ?_
  refine lv_ior (pc := 5) hx hb dX7_state_5 ?_
  have hF : F_X7_state x y = x ||| (y <<< ((7 : Int32) &&& 31)) := show F_X7_state x y = x ||| (y <<< ((7 : Int32) &&& 31)) from rfl
  exact e_i (u := []) X hQ hr (hW) [] rfl rfl (⟨hF.symm, rfl⟩) ⟨Nat.le_of_ble_eq_true rfl, Nat.le_of_ble_eq_true rfl⟩ dX7_state_6

theorem kn_7 {x : Int32} : s7 (F_X7_knownIn x) := s7_127
theorem on_7 {x : Int32} : s7 (F_X7_onceIn x) := s7_127
def F_X7_isDone (zm : Int32) (x : Int32) : Int32 := if zm &&& (x ^^^ (-1 : Int32)) = 0 then ((1 : Int32)) else ((0 : Int32))
set_option maxHeartbeats 4000000 in
set_option maxRecDepth 100000 in
theorem K_X7_isDone (l : Launch) (g : GG) (z0 : Nat) (zr : Nat) (zc : Nat) (ze1 : Nat) (ze2 : Nat) (ze3 : Nat) (ze4 : Nat) (ze5 : Nat) (ze6 : Nat) (zp : Nat) (zd : Int32) (zt : Int32) (zm : Int32) (zi0 : Int32) (zi1 : Int32) (zi2 : Int32) (zi3 : Int32) (zi4 : Int32) (x : Int32)  : MetI l g yX7_isDone cX7_isDone 2 (some .boolean) 0 0 0 [.ref z0, .int x] [(z0, .inr (7, [.ref zr, .int (nI zp), .int zd, .int zt, .int zm, .ref zc, .ref ze1, .ref ze2, .ref ze3, .ref ze4, .ref ze5, .ref ze6, .int zi0, .int zi1, .int zi2, .int zi3, .int zi4]))] (fun r u => r = (F_X7_isDone zm x) ∧ u = [(z0, .inr (7, [.ref zr, .int (nI zp), .int zd, .int zt, .int zm, .ref zc, .ref ze1, .ref ze2, .ref ze3, .ref ze4, .ref ze5, .ref ze6, .int zi0, .int zi1, .int zi2, .int zi3, .int zi4]))]) := by
  refine MetI.of (own := RX7) rfl (by decide) (Nat.le_of_ble_eq_true rfl) ?_
  intro p e s m below meth c A ls args Q hQ X hr hin hW hl
  have hx := X.1
  have hb := X.2.1
  have hl : lv_has ls 2 [(0, .ref z0), (1, .int x)] := hl
  refine lv_aload_n (pc := 0) hx hb dX7_isDone_0 rfl (lv_at hl 0 rfl) ?_
  refine r_get X hW 0 ciX7 4 rfl (by decide) m_117 rfl rfl dX7_isDone_1 ?_
  refine lv_iload_n (pc := 4) hx hb dX7_isDone_4 rfl (lv_at hl 1 rfl) ?_
  refine lv_iconst (v := (-1)) (pc := 5) hx hb dX7_isDone_5 (by decide) ?_
  refine lv_ixor (pc := 6) hx hb dX7_isDone_6 ?_
  refine lv_iand (pc := 7) hx hb dX7_isDone_7 ?_
  refine lv_if_ne (tgt := 15) (pc := 8) hx hb dX7_isDone_8 rfl (fun c1 => ?_) (fun c1 => ?_)
  · refine lv_iconst (v := 0) (pc := 15) hx hb dX7_isDone_15 (by decide) ?_
    have hF : F_X7_isDone zm x = (0 : Int32) := show F_X7_isDone zm x = (0 : Int32) from by rw [F_X7_isDone, if_neg c1]
    exact e_z (u := [(z0, .inr (7, [.ref zr, .int (nI zp), .int zd, .int zt, .int zm, .ref zc, .ref ze1, .ref ze2, .ref ze3, .ref ze4, .ref ze5, .ref ze6, .int zi0, .int zi1, .int zi2, .int zi3, .int zi4]))]) X hQ hr (hW) rfl [0] rfl rfl (⟨hF.symm, rfl⟩) ⟨Nat.le_of_ble_eq_true rfl, Nat.le_of_ble_eq_true rfl⟩ dX7_isDone_16
  · refine lv_iconst (v := 1) (pc := 11) hx hb dX7_isDone_11 (by decide) ?_
    refine lv_goto (tgt := 16) (pc := 12) hx hb dX7_isDone_12 rfl ?_
    have hF : F_X7_isDone zm x = (1 : Int32) := show F_X7_isDone zm x = (1 : Int32) from by rw [F_X7_isDone, if_pos c1]
    exact e_z (u := [(z0, .inr (7, [.ref zr, .int (nI zp), .int zd, .int zt, .int zm, .ref zc, .ref ze1, .ref ze2, .ref ze3, .ref ze4, .ref ze5, .ref ze6, .int zi0, .int zi1, .int zi2, .int zi3, .int zi4]))]) X hQ hr (hW) rfl [0] rfl rfl (⟨hF.symm, rfl⟩) ⟨Nat.le_of_ble_eq_true rfl, Nat.le_of_ble_eq_true rfl⟩ dX7_isDone_16

def F_X7_understands (zd : Int32) (x : Int32) : Int32 := (zd ^^^ (-1 : Int32)) ||| (F_X7_onceIn x)
set_option maxHeartbeats 4000000 in
set_option maxRecDepth 100000 in
theorem K_X7_understands (l : Launch) (g : GG) (z0 : Nat) (zr : Nat) (zc : Nat) (ze1 : Nat) (ze2 : Nat) (ze3 : Nat) (ze4 : Nat) (ze5 : Nat) (ze6 : Nat) (zp : Nat) (zd : Int32) (zt : Int32) (zm : Int32) (zi0 : Int32) (zi1 : Int32) (zi2 : Int32) (zi3 : Int32) (zi4 : Int32) (x : Int32)  : MetI l g yX7_understands cX7_understands 2 (some .int) 1 0 0 [.ref z0, .int x] [(z0, .inr (7, [.ref zr, .int (nI zp), .int zd, .int zt, .int zm, .ref zc, .ref ze1, .ref ze2, .ref ze3, .ref ze4, .ref ze5, .ref ze6, .int zi0, .int zi1, .int zi2, .int zi3, .int zi4]))] (fun r u => r = (F_X7_understands zd x) ∧ u = [(z0, .inr (7, [.ref zr, .int (nI zp), .int zd, .int zt, .int zm, .ref zc, .ref ze1, .ref ze2, .ref ze3, .ref ze4, .ref ze5, .ref ze6, .int zi0, .int zi1, .int zi2, .int zi3, .int zi4]))]) := by
  refine MetI.of (own := RX7) rfl (by decide) (Nat.le_of_ble_eq_true rfl) ?_
  intro p e s m below meth c A ls args Q hQ X hr hin hW hl
  have hx := X.1
  have hb := X.2.1
  have hl : lv_has ls 2 [(0, .ref z0), (1, .int x)] := hl
  refine lv_aload_n (pc := 0) hx hb dX7_understands_0 rfl (lv_at hl 0 rfl) ?_
  refine r_get X hW 0 ciX7 2 rfl (by decide) m_115 rfl rfl dX7_understands_1 ?_
  refine lv_iconst (v := (-1)) (pc := 4) hx hb dX7_understands_4 (by decide) ?_
  refine lv_ixor (pc := 5) hx hb dX7_understands_5 ?_
  refine lv_iload_n (pc := 6) hx hb dX7_understands_6 rfl (lv_at hl 1 rfl) ?_
  refine c_Si (pc := 7) (As := [.int x]) (rest := [.int (zd ^^^ (-1 : Int32))]) (wr := [(z0, .inr (7, [.ref zr, .int (nI zp), .int zd, .int zt, .int zm, .ref zc, .ref ze1, .ref ze2, .ref ze3, .ref ze4, .ref ze5, .ref ze6, .int zi0, .int zi1, .int zi2, .int zi3, .int zi4]))]) X hW (K_X7_onceIn l g x) vX7_48 [] [0] rfl rfl rfl rfl rfl rfl hl.1 rfl (Nat.le_of_ble_eq_true rfl) ⟨Nat.le_of_ble_eq_true rfl, Nat.le_of_ble_eq_true rfl⟩ ⟨Nat.le_of_ble_eq_true rfl, Nat.le_of_ble_eq_true rfl⟩ dX7_understands_7 (fun r1 u9 H locs hq hW => ?_)
  obtain ⟨rfl, rfl⟩ := hq
  have hW : WD g A s _ _ [(z0, .inr (7, [.ref zr, .int (nI zp), .int zd, .int zt, .int zm, .ref zc, .ref ze1, .ref ze2, .ref ze3, .ref ze4, .ref ze5, .ref ze6, .int zi0, .int zi1, .int zi2, .int zi3, .int zi4]))] := hW
  refine lv_ior (pc := 10) hx hb dX7_understands_10 ?_
  have hF : F_X7_understands zd x = (zd ^^^ (-1 : Int32)) ||| (F_X7_onceIn x) := show F_X7_understands zd x = (zd ^^^ (-1 : Int32)) ||| (F_X7_onceIn x) from rfl
  exact e_i (u := [(z0, .inr (7, [.ref zr, .int (nI zp), .int zd, .int zt, .int zm, .ref zc, .ref ze1, .ref ze2, .ref ze3, .ref ze4, .ref ze5, .ref ze6, .int zi0, .int zi1, .int zi2, .int zi3, .int zi4]))]) X hQ hr (hW) [0] rfl rfl (⟨hF.symm, rfl⟩) ⟨Nat.le_of_ble_eq_true rfl, Nat.le_of_ble_eq_true rfl⟩ dX7_understands_11

def F_X7_stateAfter (zd : Int32) (x : Int32) (y : Int32) : Int32 := F_X7_state ((F_X7_knownIn x) ||| (y &&& (F_X7_understands zd x))) (((F_X7_onceIn x) ||| y) &&& (((F_X7_knownIn x) ||| (y &&& (F_X7_understands zd x))) ^^^ (-1 : Int32)))
set_option maxHeartbeats 4000000 in
set_option maxRecDepth 100000 in
theorem K_X7_stateAfter (l : Launch) (g : GG) (z0 : Nat) (zr : Nat) (zc : Nat) (ze1 : Nat) (ze2 : Nat) (ze3 : Nat) (ze4 : Nat) (ze5 : Nat) (ze6 : Nat) (zp : Nat) (zd : Int32) (zt : Int32) (zm : Int32) (zi0 : Int32) (zi1 : Int32) (zi2 : Int32) (zi3 : Int32) (zi4 : Int32) (x : Int32) (y : Int32)  : MetI l g yX7_stateAfter cX7_stateAfter 4 (some .int) 2 0 0 [.ref z0, .int x, .int y] [(z0, .inr (7, [.ref zr, .int (nI zp), .int zd, .int zt, .int zm, .ref zc, .ref ze1, .ref ze2, .ref ze3, .ref ze4, .ref ze5, .ref ze6, .int zi0, .int zi1, .int zi2, .int zi3, .int zi4]))] (fun r u => r = (F_X7_stateAfter zd x y) ∧ u = [(z0, .inr (7, [.ref zr, .int (nI zp), .int zd, .int zt, .int zm, .ref zc, .ref ze1, .ref ze2, .ref ze3, .ref ze4, .ref ze5, .ref ze6, .int zi0, .int zi1, .int zi2, .int zi3, .int zi4]))]) := by
  refine MetI.of (own := RX7) rfl (by decide) (Nat.le_of_ble_eq_true rfl) ?_
  intro p e s m below meth c A ls args Q hQ X hr hin hW hl
  have hx := X.1
  have hb := X.2.1
  have hl : lv_has ls 4 [(0, .ref z0), (1, .int x), (2, .int y)] := hl
  refine lv_iload_n (pc := 0) hx hb dX7_stateAfter_0 rfl (lv_at hl 1 rfl) ?_
  refine c_Si (pc := 1) (As := [.int x]) (rest := []) (wr := [(z0, .inr (7, [.ref zr, .int (nI zp), .int zd, .int zt, .int zm, .ref zc, .ref ze1, .ref ze2, .ref ze3, .ref ze4, .ref ze5, .ref ze6, .int zi0, .int zi1, .int zi2, .int zi3, .int zi4]))]) X hW (K_X7_knownIn l g x) vX7_44 [] [0] rfl rfl rfl rfl rfl rfl hl.1 rfl (Nat.le_of_ble_eq_true rfl) ⟨Nat.le_of_ble_eq_true rfl, Nat.le_of_ble_eq_true rfl⟩ ⟨Nat.le_of_ble_eq_true rfl, Nat.le_of_ble_eq_true rfl⟩ dX7_stateAfter_1 (fun r1 u9 H locs hq hW => ?_)
  obtain ⟨rfl, rfl⟩ := hq
  have hW : WD g A s _ _ [(z0, .inr (7, [.ref zr, .int (nI zp), .int zd, .int zt, .int zm, .ref zc, .ref ze1, .ref ze2, .ref ze3, .ref ze4, .ref ze5, .ref ze6, .int zi0, .int zi1, .int zi2, .int zi3, .int zi4]))] := hW
  refine lv_iload_n (pc := 4) hx hb dX7_stateAfter_4 rfl (lv_at hl 2 rfl) ?_
  refine lv_aload_n (pc := 5) hx hb dX7_stateAfter_5 rfl (lv_at hl 0 rfl) ?_
  refine lv_iload_n (pc := 6) hx hb dX7_stateAfter_6 rfl (lv_at hl 1 rfl) ?_
  refine c_Vi (pc := 7) (As := [.int x]) (rest := [.int y, .int (F_X7_knownIn x)]) (wr := []) X hW 0 ciX7 rfl (K_X7_understands l g z0 zr zc ze1 ze2 ze3 ze4 ze5 ze6 zp zd zt zm zi0 zi1 zi2 zi3 zi4 x) vX7_147 [0] [] rfl rfl rfl rfl rfl rfl hl.1 rfl (Nat.le_of_ble_eq_true rfl) ⟨Nat.le_of_ble_eq_true rfl, Nat.le_of_ble_eq_true rfl⟩ ⟨Nat.le_of_ble_eq_true rfl, Nat.le_of_ble_eq_true rfl⟩ dX7_stateAfter_7 (fun r2 u9 H locs hq hW => ?_)
  obtain ⟨rfl, rfl⟩ := hq
  have hW : WD g A s _ _ [(z0, .inr (7, [.ref zr, .int (nI zp), .int zd, .int zt, .int zm, .ref zc, .ref ze1, .ref ze2, .ref ze3, .ref ze4, .ref ze5, .ref ze6, .int zi0, .int zi1, .int zi2, .int zi3, .int zi4]))] := hW
  refine lv_iand (pc := 10) hx hb dX7_stateAfter_10 ?_
  refine lv_ior (pc := 11) hx hb dX7_stateAfter_11 ?_
  refine lv_istore_n (lv' := [(3, .int ((F_X7_knownIn x) ||| (y &&& (F_X7_understands zd x)))), (0, .ref z0), (1, .int x), (2, .int y)]) (pc := 12) hx hb dX7_stateAfter_12 rfl hl (by decide) rfl (fun ls hl => ?_)
  refine lv_iload_n (pc := 13) hx hb dX7_stateAfter_13 rfl (lv_at hl 0 rfl) ?_
  refine lv_iload_n (pc := 14) hx hb dX7_stateAfter_14 rfl (lv_at hl 2 rfl) ?_
  refine c_Si (pc := 15) (As := [.int x]) (rest := [.int ((F_X7_knownIn x) ||| (y &&& (F_X7_understands zd x)))]) (wr := [(z0, .inr (7, [.ref zr, .int (nI zp), .int zd, .int zt, .int zm, .ref zc, .ref ze1, .ref ze2, .ref ze3, .ref ze4, .ref ze5, .ref ze6, .int zi0, .int zi1, .int zi2, .int zi3, .int zi4]))]) X hW (K_X7_onceIn l g x) vX7_48 [] [0] rfl rfl rfl rfl rfl rfl hl.1 rfl (Nat.le_of_ble_eq_true rfl) ⟨Nat.le_of_ble_eq_true rfl, Nat.le_of_ble_eq_true rfl⟩ ⟨Nat.le_of_ble_eq_true rfl, Nat.le_of_ble_eq_true rfl⟩ dX7_stateAfter_15 (fun r3 u9 H locs hq hW => ?_)
  obtain ⟨rfl, rfl⟩ := hq
  have hW : WD g A s _ _ [(z0, .inr (7, [.ref zr, .int (nI zp), .int zd, .int zt, .int zm, .ref zc, .ref ze1, .ref ze2, .ref ze3, .ref ze4, .ref ze5, .ref ze6, .int zi0, .int zi1, .int zi2, .int zi3, .int zi4]))] := hW
  refine lv_iload_n (pc := 18) hx hb dX7_stateAfter_18 rfl (lv_at hl 3 rfl) ?_
  refine lv_ior (pc := 19) hx hb dX7_stateAfter_19 ?_
  refine lv_iload_n (pc := 20) hx hb dX7_stateAfter_20 rfl (lv_at hl 0 rfl) ?_
  refine lv_iconst (v := (-1)) (pc := 21) hx hb dX7_stateAfter_21 (by decide) ?_
  refine lv_ixor (pc := 22) hx hb dX7_stateAfter_22 ?_
  refine lv_iand (pc := 23) hx hb dX7_stateAfter_23 ?_
  refine c_Si (pc := 24) (As := [.int ((F_X7_knownIn x) ||| (y &&& (F_X7_understands zd x))), .int (((F_X7_onceIn x) ||| y) &&& (((F_X7_knownIn x) ||| (y &&& (F_X7_understands zd x))) ^^^ (-1 : Int32)))]) (rest := []) (wr := [(z0, .inr (7, [.ref zr, .int (nI zp), .int zd, .int zt, .int zm, .ref zc, .ref ze1, .ref ze2, .ref ze3, .ref ze4, .ref ze5, .ref ze6, .int zi0, .int zi1, .int zi2, .int zi3, .int zi4]))]) X hW (K_X7_state l g ((F_X7_knownIn x) ||| (y &&& (F_X7_understands zd x))) (((F_X7_onceIn x) ||| y) &&& (((F_X7_knownIn x) ||| (y &&& (F_X7_understands zd x))) ^^^ (-1 : Int32)))) vX7_40 [] [0] rfl rfl rfl rfl rfl rfl hl.1 rfl (Nat.le_of_ble_eq_true rfl) ⟨Nat.le_of_ble_eq_true rfl, Nat.le_of_ble_eq_true rfl⟩ ⟨Nat.le_of_ble_eq_true rfl, Nat.le_of_ble_eq_true rfl⟩ dX7_stateAfter_24 (fun r4 u9 H locs hq hW => ?_)
  obtain ⟨rfl, rfl⟩ := hq
  have hW : WD g A s _ _ [(z0, .inr (7, [.ref zr, .int (nI zp), .int zd, .int zt, .int zm, .ref zc, .ref ze1, .ref ze2, .ref ze3, .ref ze4, .ref ze5, .ref ze6, .int zi0, .int zi1, .int zi2, .int zi3, .int zi4]))] := hW
  have hF : F_X7_stateAfter zd x y = F_X7_state ((F_X7_knownIn x) ||| (y &&& (F_X7_understands zd x))) (((F_X7_onceIn x) ||| y) &&& (((F_X7_knownIn x) ||| (y &&& (F_X7_understands zd x))) ^^^ (-1 : Int32))) := show F_X7_stateAfter zd x y = F_X7_state ((F_X7_knownIn x) ||| (y &&& (F_X7_understands zd x))) (((F_X7_onceIn x) ||| y) &&& (((F_X7_knownIn x) ||| (y &&& (F_X7_understands zd x))) ^^^ (-1 : Int32))) from rfl
  exact e_i (u := [(z0, .inr (7, [.ref zr, .int (nI zp), .int zd, .int zt, .int zm, .ref zc, .ref ze1, .ref ze2, .ref ze3, .ref ze4, .ref ze5, .ref ze6, .int zi0, .int zi1, .int zi2, .int zi3, .int zi4]))]) X hQ hr (hW) [0] rfl rfl (⟨hF.symm, rfl⟩) ⟨Nat.le_of_ble_eq_true rfl, Nat.le_of_ble_eq_true rfl⟩ dX7_stateAfter_27

def F_X7_placeOf (pw : Nat → Int32) (x : Int32) : Int32 := if 2187 ≤ nI (2 * (tN (pw (tN (F_X7_knownIn x)))) + tN (pw (tN (F_X7_onceIn x)))) then ((0 : Int32)) else (nI (2 * (tN (pw (tN (F_X7_knownIn x)))) + tN (pw (tN (F_X7_onceIn x)))))
set_option maxHeartbeats 4000000 in
set_option maxRecDepth 100000 in
theorem K_X7_placeOf (l : Launch) (g : GG) (z0 : Nat) (zr : Nat) (zc : Nat) (ze1 : Nat) (ze2 : Nat) (ze3 : Nat) (ze4 : Nat) (ze5 : Nat) (ze6 : Nat) (zp : Nat) (zd : Int32) (zt : Int32) (zm : Int32) (zi0 : Int32) (zi1 : Int32) (zi2 : Int32) (zi3 : Int32) (zi4 : Int32) (pw : Nat → Int32) (x : Int32) (hpw : ∀ j : Nat, j < 128 → pw j = nI (tN (pw j)) ∧ tN (pw j) ≤ 1093) : MetI l g yX7_placeOf cX7_placeOf 3 (some .int) 1 0 0 [.ref z0, .int x] [(z0, .inr (7, [.ref zr, .int (nI zp), .int zd, .int zt, .int zm, .ref zc, .ref ze1, .ref ze2, .ref ze3, .ref ze4, .ref ze5, .ref ze6, .int zi0, .int zi1, .int zi2, .int zi3, .int zi4])), (ze1, .inl (g.2.1 1, 128, .inl pw))] (fun r u => r = (F_X7_placeOf pw x) ∧ u = [(z0, .inr (7, [.ref zr, .int (nI zp), .int zd, .int zt, .int zm, .ref zc, .ref ze1, .ref ze2, .ref ze3, .ref ze4, .ref ze5, .ref ze6, .int zi0, .int zi1, .int zi2, .int zi3, .int zi4])), (ze1, .inl (g.2.1 1, 128, .inl pw))]) := by
  refine MetI.of (own := RX7) rfl (by decide) (Nat.le_of_ble_eq_true rfl) ?_
  intro p e s m below meth c A ls args Q hQ X hr hin hW hl
  have hx := X.1
  have hb := X.2.1
  have hl : lv_has ls 3 [(0, .ref z0), (1, .int x)] := hl
  refine lv_iconst (v := 2) (pc := 0) hx hb dX7_placeOf_0 (by decide) ?_
  refine lv_aload_n (pc := 1) hx hb dX7_placeOf_1 rfl (lv_at hl 0 rfl) ?_
  refine r_get X hW 0 ciX7 6 rfl (by decide) m_119 rfl rfl dX7_placeOf_2 ?_
  refine lv_iload_n (pc := 5) hx hb dX7_placeOf_5 rfl (lv_at hl 1 rfl) ?_
  refine c_Si (pc := 6) (As := [.int x]) (rest := [.ref ze1, .int 2]) (wr := [(z0, .inr (7, [.ref zr, .int (nI zp), .int zd, .int zt, .int zm, .ref zc, .ref ze1, .ref ze2, .ref ze3, .ref ze4, .ref ze5, .ref ze6, .int zi0, .int zi1, .int zi2, .int zi3, .int zi4])), (ze1, .inl (g.2.1 1, 128, .inl pw))]) X hW (K_X7_knownIn l g x) vX7_44 [] [0, 1] rfl rfl rfl rfl rfl rfl hl.1 rfl (Nat.le_of_ble_eq_true rfl) ⟨Nat.le_of_ble_eq_true rfl, Nat.le_of_ble_eq_true rfl⟩ ⟨Nat.le_of_ble_eq_true rfl, Nat.le_of_ble_eq_true rfl⟩ dX7_placeOf_6 (fun r1 u9 H locs hq hW => ?_)
  obtain ⟨rfl, rfl⟩ := hq
  have hW : WD g A s _ _ [(z0, .inr (7, [.ref zr, .int (nI zp), .int zd, .int zt, .int zm, .ref zc, .ref ze1, .ref ze2, .ref ze3, .ref ze4, .ref ze5, .ref ze6, .int zi0, .int zi1, .int zi2, .int zi3, .int zi4])), (ze1, .inl (g.2.1 1, 128, .inl pw))] := hW
  have hk9 := s7_num (kn_7 (x := x))
  have hk9b := hpw _ hk9.2
  have hk9c := hk9b.2
  rw [hk9.1]
  refine r_iald X hW 1 rfl (vp_in_nI (by omega) (by decide)) dX7_placeOf_9 ?_
  refine lv_topi (fun v2 ev2 => ?_)
  obtain rfl : v2 = pw (tN (F_X7_knownIn x)) := ev2.trans (by rw [nI_clamp (by omega)])
  rw [hk9b.1]
  refine lv_imul (pc := 10) hx hb dX7_placeOf_10 ?_
  refine lv_topi (fun v3 ev3 => ?_)
  obtain rfl : v3 = nI (2 * (tN (pw (tN (F_X7_knownIn x))))) := ev3.trans (pk_mul 2 (tN (pw (tN (F_X7_knownIn x)))))
  refine lv_aload_n (pc := 11) hx hb dX7_placeOf_11 rfl (lv_at hl 0 rfl) ?_
  refine r_get X hW 0 ciX7 6 rfl (by decide) m_119 rfl rfl dX7_placeOf_12 ?_
  refine lv_iload_n (pc := 15) hx hb dX7_placeOf_15 rfl (lv_at hl 1 rfl) ?_
  refine c_Si (pc := 16) (As := [.int x]) (rest := [.ref ze1, .int (nI (2 * (tN (pw (tN (F_X7_knownIn x))))))]) (wr := [(z0, .inr (7, [.ref zr, .int (nI zp), .int zd, .int zt, .int zm, .ref zc, .ref ze1, .ref ze2, .ref ze3, .ref ze4, .ref ze5, .ref ze6, .int zi0, .int zi1, .int zi2, .int zi3, .int zi4])), (ze1, .inl (g.2.1 1, 128, .inl pw))]) X hW (K_X7_onceIn l g x) vX7_48 [] [0, 1] rfl rfl rfl rfl rfl rfl hl.1 rfl (Nat.le_of_ble_eq_true rfl) ⟨Nat.le_of_ble_eq_true rfl, Nat.le_of_ble_eq_true rfl⟩ ⟨Nat.le_of_ble_eq_true rfl, Nat.le_of_ble_eq_true rfl⟩ dX7_placeOf_16 (fun r4 u9 H locs hq hW => ?_)
  obtain ⟨rfl, rfl⟩ := hq
  have hW : WD g A s _ _ [(z0, .inr (7, [.ref zr, .int (nI zp), .int zd, .int zt, .int zm, .ref zc, .ref ze1, .ref ze2, .ref ze3, .ref ze4, .ref ze5, .ref ze6, .int zi0, .int zi1, .int zi2, .int zi3, .int zi4])), (ze1, .inl (g.2.1 1, 128, .inl pw))] := hW
  have hk8 := s7_num (on_7 (x := x))
  have hk8b := hpw _ hk8.2
  have hk8c := hk8b.2
  rw [hk8.1]
  refine r_iald X hW 1 rfl (vp_in_nI (by omega) (by decide)) dX7_placeOf_19 ?_
  refine lv_topi (fun v5 ev5 => ?_)
  obtain rfl : v5 = pw (tN (F_X7_onceIn x)) := ev5.trans (by rw [nI_clamp (by omega)])
  rw [hk8b.1]
  refine lv_iadd (pc := 20) hx hb dX7_placeOf_20 ?_
  refine lv_topi (fun v6 ev6 => ?_)
  obtain rfl : v6 = nI (2 * (tN (pw (tN (F_X7_knownIn x)))) + tN (pw (tN (F_X7_onceIn x)))) := ev6.trans (nI_add _ _)
  refine lv_istore_n (lv' := [(2, .int (nI (2 * (tN (pw (tN (F_X7_knownIn x)))) + tN (pw (tN (F_X7_onceIn x)))))), (0, .ref z0), (1, .int x)]) (pc := 21) hx hb dX7_placeOf_21 rfl hl (by decide) rfl (fun ls hl => ?_)
  refine lv_iload_n (pc := 22) hx hb dX7_placeOf_22 rfl (lv_at hl 0 rfl) ?_
  refine lv_sipush (v := 2187) (pc := 23) hx hb dX7_placeOf_23 (by decide) ?_
  refine lv_icmp_ge (tgt := 33) (pc := 26) hx hb dX7_placeOf_26 rfl (fun c7 => ?_) (fun c7 => ?_)
  · have h8 : 2187 ≤ (2 * (tN (pw (tN (F_X7_knownIn x)))) + tN (pw (tN (F_X7_onceIn x)))) := (nI_leI (a := 2187) (b := (2 * (tN (pw (tN (F_X7_knownIn x)))) + tN (pw (tN (F_X7_onceIn x))))) (by omega) (by omega)).mp c7
    refine lv_iconst (v := 0) (pc := 33) hx hb dX7_placeOf_33 (by decide) ?_
    have hF : F_X7_placeOf pw x = (0 : Int32) := show F_X7_placeOf pw x = (0 : Int32) from by rw [F_X7_placeOf, if_pos c7]
    exact e_i (u := [(z0, .inr (7, [.ref zr, .int (nI zp), .int zd, .int zt, .int zm, .ref zc, .ref ze1, .ref ze2, .ref ze3, .ref ze4, .ref ze5, .ref ze6, .int zi0, .int zi1, .int zi2, .int zi3, .int zi4])), (ze1, .inl (g.2.1 1, 128, .inl pw))]) X hQ hr (hW) [0, 1] rfl rfl (⟨hF.symm, rfl⟩) ⟨Nat.le_of_ble_eq_true rfl, Nat.le_of_ble_eq_true rfl⟩ dX7_placeOf_34
  · have h9 : ¬ (2187 ≤ (2 * (tN (pw (tN (F_X7_knownIn x)))) + tN (pw (tN (F_X7_onceIn x))))) := fun q => c7 ((nI_leI (a := 2187) (b := (2 * (tN (pw (tN (F_X7_knownIn x)))) + tN (pw (tN (F_X7_onceIn x))))) (by omega) (by omega)).mpr q)
    refine lv_iload_n (pc := 29) hx hb dX7_placeOf_29 rfl (lv_at hl 0 rfl) ?_
    refine lv_goto (tgt := 34) (pc := 30) hx hb dX7_placeOf_30 rfl ?_
    have hF : F_X7_placeOf pw x = nI (2 * (tN (pw (tN (F_X7_knownIn x)))) + tN (pw (tN (F_X7_onceIn x)))) := show F_X7_placeOf pw x = nI (2 * (tN (pw (tN (F_X7_knownIn x)))) + tN (pw (tN (F_X7_onceIn x)))) from by rw [F_X7_placeOf, if_neg c7]
    exact e_i (u := [(z0, .inr (7, [.ref zr, .int (nI zp), .int zd, .int zt, .int zm, .ref zc, .ref ze1, .ref ze2, .ref ze3, .ref ze4, .ref ze5, .ref ze6, .int zi0, .int zi1, .int zi2, .int zi3, .int zi4])), (ze1, .inl (g.2.1 1, 128, .inl pw))]) X hQ hr (hW) [0, 1] rfl rfl (⟨hF.symm, rfl⟩) ⟨Nat.le_of_ble_eq_true rfl, Nat.le_of_ble_eq_true rfl⟩ dX7_placeOf_34

theorem pl_at {pw : Nat → Int32} {x : Int32} (hpw : ∀ j : Nat, j < 128 → pw j = nI (tN (pw j)) ∧ tN (pw j) ≤ 1093) : F_X7_placeOf pw x = nI (tN (F_X7_placeOf pw x)) ∧ tN (F_X7_placeOf pw x) < 2187 := by
  have h1 := (hpw _ (s7_num (kn_7 (x := x))).2).2
  have h2 := (hpw _ (s7_num (on_7 (x := x))).2).2
  unfold F_X7_placeOf
  split
  · exact ⟨by decide, by decide⟩
  · rename_i c
    have h3 : ¬ 2187 ≤ 2 * tN (pw (tN (F_X7_knownIn x))) + tN (pw (tN (F_X7_onceIn x))) := fun q => c ((nI_leI (a := 2187) (by omega) (by omega)).mpr q)
    rw [tN_nI (by omega)]
    exact ⟨rfl, by omega⟩
def NC (x : Int32) : Prop := x = nI (tN x) ∧ tN x ≤ 2187
theorem NC_0 : NC 0 := ⟨by decide, by decide⟩
def F_X7_arrive (zi1 : Int32) (pw : Nat → Int32) (ct : Nat → Int32) (nx : Nat → Int32) (x : Int32) (hs : Int32) : (Nat → Int32) × (Nat → Int32) × Int32 := if hasv (ct (tN (F_X7_placeOf pw x))) hs = 0 then (if 2187 ≤ nI (tN zi1) then ((ct, nx, zi1)) else (((upd ct (tN (F_X7_placeOf pw x)) ((ct (tN (F_X7_placeOf pw x))) ||| ((1 : Int32) <<< (hs &&& 31)))), (upd nx (tN zi1) x), nI (tN zi1 + 1)))) else ((ct, nx, zi1))
set_option maxHeartbeats 4000000 in
set_option maxRecDepth 100000 in
theorem K_X7_arrive (l : Launch) (g : GG) (z0 : Nat) (zr : Nat) (zc : Nat) (ze1 : Nat) (ze2 : Nat) (ze3 : Nat) (ze4 : Nat) (ze5 : Nat) (ze6 : Nat) (zp : Nat) (zd : Int32) (zt : Int32) (zm : Int32) (zi0 : Int32) (zi1 : Int32) (zi2 : Int32) (zi3 : Int32) (zi4 : Int32) (pw : Nat → Int32) (ct : Nat → Int32) (nx : Nat → Int32) (x : Int32) (hs : Int32) (hpw : ∀ j : Nat, j < 128 → pw j = nI (tN (pw j)) ∧ tN (pw j) ≤ 1093) (hn1 : NC zi1) : MetV l g yX7_arrive cX7_arrive 4 none 2 0 0 [.ref z0, .int x, .int hs] [(z0, .inr (7, [.ref zr, .int (nI zp), .int zd, .int zt, .int zm, .ref zc, .ref ze1, .ref ze2, .ref ze3, .ref ze4, .ref ze5, .ref ze6, .int zi0, .int zi1, .int zi2, .int zi3, .int zi4])), (ze1, .inl (g.2.1 1, 128, .inl pw)), (ze3, .inl (g.2.1 1, 2187, .inl ct)), (ze6, .inl (g.2.1 1, 2187, .inl nx))] (fun u => u = [(z0, .inr (7, [.ref zr, .int (nI zp), .int zd, .int zt, .int zm, .ref zc, .ref ze1, .ref ze2, .ref ze3, .ref ze4, .ref ze5, .ref ze6, .int zi0, .int ((F_X7_arrive zi1 pw ct nx x hs).2.2), .int zi2, .int zi3, .int zi4])), (ze1, .inl (g.2.1 1, 128, .inl pw)), (ze3, .inl (g.2.1 1, 2187, .inl ((F_X7_arrive zi1 pw ct nx x hs).1))), (ze6, .inl (g.2.1 1, 2187, .inl ((F_X7_arrive zi1 pw ct nx x hs).2.1)))]) := by
  refine MetV.of (own := RX7) rfl (by decide) (Nat.le_of_ble_eq_true rfl) ?_
  intro p e s m below meth c A ls args Q hQ X hr hin hW hl
  have hx := X.1
  have hb := X.2.1
  have hl : lv_has ls 4 [(0, .ref z0), (1, .int x), (2, .int hs)] := hl
  have hn1b := hn1.2
  refine lv_aload_n (pc := 0) hx hb dX7_arrive_0 rfl (lv_at hl 0 rfl) ?_
  refine lv_iload_n (pc := 1) hx hb dX7_arrive_1 rfl (lv_at hl 1 rfl) ?_
  refine c_Vi (pc := 2) (As := [.int x]) (rest := []) (wr := [(ze3, .inl (g.2.1 1, 2187, .inl ct)), (ze6, .inl (g.2.1 1, 2187, .inl nx))]) X hW 0 ciX7 rfl (K_X7_placeOf l g z0 zr zc ze1 ze2 ze3 ze4 ze5 ze6 zp zd zt zm zi0 zi1 zi2 zi3 zi4 pw x hpw) vX7_124 [0, 1] [2, 3] rfl rfl rfl rfl rfl rfl hl.1 rfl (Nat.le_of_ble_eq_true rfl) ⟨Nat.le_of_ble_eq_true rfl, Nat.le_of_ble_eq_true rfl⟩ ⟨Nat.le_of_ble_eq_true rfl, Nat.le_of_ble_eq_true rfl⟩ dX7_arrive_2 (fun r1 u9 H locs hq hW => ?_)
  obtain ⟨rfl, rfl⟩ := hq
  have hW : WD g A s _ _ [(ze3, .inl (g.2.1 1, 2187, .inl ct)), (ze6, .inl (g.2.1 1, 2187, .inl nx)), (z0, .inr (7, [.ref zr, .int (nI zp), .int zd, .int zt, .int zm, .ref zc, .ref ze1, .ref ze2, .ref ze3, .ref ze4, .ref ze5, .ref ze6, .int zi0, .int zi1, .int zi2, .int zi3, .int zi4])), (ze1, .inl (g.2.1 1, 128, .inl pw))] := hW
  have hpl := pl_at (x := x) hpw
  have hpl2 := hpl.2
  rw [hpl.1]
  refine lv_istore_n (lv' := [(3, .int (nI (tN (F_X7_placeOf pw x)))), (0, .ref z0), (1, .int x), (2, .int hs)]) (pc := 5) hx hb dX7_arrive_5 rfl hl (by decide) rfl (fun ls hl => ?_)
  refine lv_aload_n (pc := 6) hx hb dX7_arrive_6 rfl (lv_at hl 1 rfl) ?_
  refine r_get X hW 2 ciX7 8 rfl (by decide) m_121 rfl rfl dX7_arrive_7 ?_
  refine lv_iload_n (pc := 10) hx hb dX7_arrive_10 rfl (lv_at hl 0 rfl) ?_
  refine r_iald X hW 0 rfl (vp_in_nI (by omega) (by decide)) dX7_arrive_11 ?_
  refine lv_topi (fun v2 ev2 => ?_)
  obtain rfl : v2 = ct (tN (F_X7_placeOf pw x)) := ev2.trans (by rw [nI_clamp (by omega)])
  refine lv_iload_n (pc := 12) hx hb dX7_arrive_12 rfl (lv_at hl 3 rfl) ?_
  refine c_SNi (pc := 13) (As := [.int (ct (tN (F_X7_placeOf pw x))), .int hs]) (rest := []) (wr := [(ze3, .inl (g.2.1 1, 2187, .inl ct)), (ze6, .inl (g.2.1 1, 2187, .inl nx)), (z0, .inr (7, [.ref zr, .int (nI zp), .int zd, .int zt, .int zm, .ref zc, .ref ze1, .ref ze2, .ref ze3, .ref ze4, .ref ze5, .ref ze6, .int zi0, .int zi1, .int zi2, .int zi3, .int zi4])), (ze1, .inl (g.2.1 1, 128, .inl pw))]) X hW (C_X11_has l g (ct (tN (F_X7_placeOf pw x))) hs) vX7_77 [] [0, 1, 2, 3] rfl rfl rfl rfl rfl rfl hl.1 rfl (Nat.le_of_ble_eq_true rfl) ⟨Nat.le_of_ble_eq_true rfl, Nat.le_of_ble_eq_true rfl⟩ ⟨Nat.le_of_ble_eq_true rfl, Nat.le_of_ble_eq_true rfl⟩ dX7_arrive_13 (fun r3 u9 H locs hq hW => ?_)
  obtain ⟨rfl, rfl⟩ := hq
  have hW : WD g A s _ _ [(ze3, .inl (g.2.1 1, 2187, .inl ct)), (ze6, .inl (g.2.1 1, 2187, .inl nx)), (z0, .inr (7, [.ref zr, .int (nI zp), .int zd, .int zt, .int zm, .ref zc, .ref ze1, .ref ze2, .ref ze3, .ref ze4, .ref ze5, .ref ze6, .int zi0, .int zi1, .int zi2, .int zi3, .int zi4])), (ze1, .inl (g.2.1 1, 128, .inl pw))] := hW
  refine lv_if_ne (tgt := 61) (pc := 16) hx hb dX7_arrive_16 rfl (fun c4 => ?_) (fun c4 => ?_)
  · have hF : F_X7_arrive zi1 pw ct nx x hs = (ct, nx, zi1) := show F_X7_arrive zi1 pw ct nx x hs = (ct, nx, zi1) from by rw [F_X7_arrive, if_neg c4]
    exact e_v (u := [(z0, .inr (7, [.ref zr, .int (nI zp), .int zd, .int zt, .int zm, .ref zc, .ref ze1, .ref ze2, .ref ze3, .ref ze4, .ref ze5, .ref ze6, .int zi0, .int zi1, .int zi2, .int zi3, .int zi4])), (ze1, .inl (g.2.1 1, 128, .inl pw)), (ze3, .inl (g.2.1 1, 2187, .inl ct)), (ze6, .inl (g.2.1 1, 2187, .inl nx))]) X hQ hr (hW) [2, 3, 0, 1] rfl rfl (by rw [hF]) ⟨Nat.le_of_ble_eq_true rfl, Nat.le_of_ble_eq_true rfl⟩ dX7_arrive_61
  · refine lv_aload_n (pc := 19) hx hb dX7_arrive_19 rfl (lv_at hl 1 rfl) ?_
    refine r_get X hW 2 ciX7 13 rfl (by decide) m_126 rfl rfl dX7_arrive_20 ?_
    rw [hn1.1]
    refine lv_sipush (v := 2187) (pc := 23) hx hb dX7_arrive_23 (by decide) ?_
    refine lv_icmp_ge (tgt := 61) (pc := 26) hx hb dX7_arrive_26 rfl (fun c7 => ?_) (fun c7 => ?_)
    · have h8 : 2187 ≤ (tN zi1) := (nI_leI (a := 2187) (b := (tN zi1)) (by omega) (by omega)).mp c7
      have hF : F_X7_arrive zi1 pw ct nx x hs = (ct, nx, zi1) := show F_X7_arrive zi1 pw ct nx x hs = (ct, nx, zi1) from by rw [F_X7_arrive, if_pos c4, if_pos c7]
      exact e_v (u := [(z0, .inr (7, [.ref zr, .int (nI zp), .int zd, .int zt, .int zm, .ref zc, .ref ze1, .ref ze2, .ref ze3, .ref ze4, .ref ze5, .ref ze6, .int zi0, .int zi1, .int zi2, .int zi3, .int zi4])), (ze1, .inl (g.2.1 1, 128, .inl pw)), (ze3, .inl (g.2.1 1, 2187, .inl ct)), (ze6, .inl (g.2.1 1, 2187, .inl nx))]) X hQ hr (hW) [2, 3, 0, 1] rfl rfl (by rw [hF]) ⟨Nat.le_of_ble_eq_true rfl, Nat.le_of_ble_eq_true rfl⟩ dX7_arrive_61
    · have h9 : ¬ (2187 ≤ (tN zi1)) := fun q => c7 ((nI_leI (a := 2187) (b := (tN zi1)) (by omega) (by omega)).mpr q)
      refine lv_aload_n (pc := 29) hx hb dX7_arrive_29 rfl (lv_at hl 1 rfl) ?_
      refine r_get X hW 2 ciX7 8 rfl (by decide) m_121 rfl rfl dX7_arrive_30 ?_
      refine lv_iload_n (pc := 33) hx hb dX7_arrive_33 rfl (lv_at hl 0 rfl) ?_
      refine lv_dup2_11 (pc := 34) hx hb dX7_arrive_34 rfl rfl ?_
      refine r_iald X hW 0 rfl (vp_in_nI (by omega) (by decide)) dX7_arrive_35 ?_
      refine lv_topi (fun v10 ev10 => ?_)
      obtain rfl : v10 = ct (tN (F_X7_placeOf pw x)) := ev10.trans (by rw [nI_clamp (by omega)])
      refine lv_iconst (v := 1) (pc := 36) hx hb dX7_arrive_36 (by decide) ?_
      refine lv_iload_n (pc := 37) hx hb dX7_arrive_37 rfl (lv_at hl 3 rfl) ?_
      refine lv_ishl (pc := 38) hx hb dX7_arrive_38 ?_
      refine lv_ior (pc := 39) hx hb dX7_arrive_39 ?_
      refine r_iast (ws' := [(ze3, .inl (g.2.1 1, 2187, .inl (upd ct (tN (F_X7_placeOf pw x)) ((ct (tN (F_X7_placeOf pw x))) ||| ((1 : Int32) <<< (hs &&& 31)))))), (ze6, .inl (g.2.1 1, 2187, .inl nx)), (z0, .inr (7, [.ref zr, .int (nI zp), .int zd, .int zt, .int zm, .ref zc, .ref ze1, .ref ze2, .ref ze3, .ref ze4, .ref ze5, .ref ze6, .int zi0, .int zi1, .int zi2, .int zi3, .int zi4])), (ze1, .inl (g.2.1 1, 128, .inl pw))]) X hW 0 rfl (vp_in_nI (by omega) (by decide)) (f' := (upd ct (tN (F_X7_placeOf pw x)) ((ct (tN (F_X7_placeOf pw x))) ||| ((1 : Int32) <<< (hs &&& 31))))) (by rw [nI_clamp (by omega)]) rfl dX7_arrive_40 (fun H locs hW => ?_)
      refine lv_aload_n (pc := 41) hx hb dX7_arrive_41 rfl (lv_at hl 1 rfl) ?_
      refine r_get X hW 2 ciX7 11 rfl (by decide) m_124 rfl rfl dX7_arrive_42 ?_
      refine lv_aload_n (pc := 45) hx hb dX7_arrive_45 rfl (lv_at hl 1 rfl) ?_
      refine r_get X hW 2 ciX7 13 rfl (by decide) m_126 rfl rfl dX7_arrive_46 ?_
      rw [hn1.1]
      refine lv_iload_n (pc := 49) hx hb dX7_arrive_49 rfl (lv_at hl 2 rfl) ?_
      refine r_iast (ws' := [(ze3, .inl (g.2.1 1, 2187, .inl (upd ct (tN (F_X7_placeOf pw x)) ((ct (tN (F_X7_placeOf pw x))) ||| ((1 : Int32) <<< (hs &&& 31)))))), (ze6, .inl (g.2.1 1, 2187, .inl (upd nx (tN zi1) x))), (z0, .inr (7, [.ref zr, .int (nI zp), .int zd, .int zt, .int zm, .ref zc, .ref ze1, .ref ze2, .ref ze3, .ref ze4, .ref ze5, .ref ze6, .int zi0, .int zi1, .int zi2, .int zi3, .int zi4])), (ze1, .inl (g.2.1 1, 128, .inl pw))]) X hW 1 rfl (vp_in_nI (by omega) (by decide)) (f' := (upd nx (tN zi1) x)) (by rw [nI_clamp (by omega)]) rfl dX7_arrive_50 (fun H locs hW => ?_)
      refine lv_aload_n (pc := 51) hx hb dX7_arrive_51 rfl (lv_at hl 1 rfl) ?_
      refine lv_dup (pc := 52) hx hb dX7_arrive_52 rfl ?_
      refine r_get X hW 2 ciX7 13 rfl (by decide) m_126 rfl rfl dX7_arrive_53 ?_
      rw [hn1.1]
      refine lv_iconst (v := 1) (pc := 56) hx hb dX7_arrive_56 (by decide) ?_
      refine lv_iadd (pc := 57) hx hb dX7_arrive_57 ?_
      refine lv_topi (fun v11 ev11 => ?_)
      obtain rfl : v11 = nI (tN zi1 + 1) := ev11.trans (nI_add (tN zi1) 1)
      refine r_put (ws' := [(ze3, .inl (g.2.1 1, 2187, .inl (upd ct (tN (F_X7_placeOf pw x)) ((ct (tN (F_X7_placeOf pw x))) ||| ((1 : Int32) <<< (hs &&& 31)))))), (ze6, .inl (g.2.1 1, 2187, .inl (upd nx (tN zi1) x))), (z0, .inr (7, [.ref zr, .int (nI zp), .int zd, .int zt, .int zm, .ref zc, .ref ze1, .ref ze2, .ref ze3, .ref ze4, .ref ze5, .ref ze6, .int zi0, .int (nI (tN zi1 + 1)), .int zi2, .int zi3, .int zi4])), (ze1, .inl (g.2.1 1, 128, .inl pw))]) X hW 2 ciX7 13 rfl (by decide) m_126 rfl rfl rfl rfl (Nat.le_of_ble_eq_true rfl) rfl dX7_arrive_58 (fun H locs hW => ?_)
      have hF : F_X7_arrive zi1 pw ct nx x hs = ((upd ct (tN (F_X7_placeOf pw x)) ((ct (tN (F_X7_placeOf pw x))) ||| ((1 : Int32) <<< (hs &&& 31)))), (upd nx (tN zi1) x), nI (tN zi1 + 1)) := show F_X7_arrive zi1 pw ct nx x hs = ((upd ct (tN (F_X7_placeOf pw x)) ((ct (tN (F_X7_placeOf pw x))) ||| ((1 : Int32) <<< (hs &&& 31)))), (upd nx (tN zi1) x), nI (tN zi1 + 1)) from by rw [F_X7_arrive, if_pos c4, if_neg c7]
      exact e_v (u := [(z0, .inr (7, [.ref zr, .int (nI zp), .int zd, .int zt, .int zm, .ref zc, .ref ze1, .ref ze2, .ref ze3, .ref ze4, .ref ze5, .ref ze6, .int zi0, .int (nI (tN zi1 + 1)), .int zi2, .int zi3, .int zi4])), (ze1, .inl (g.2.1 1, 128, .inl pw)), (ze3, .inl (g.2.1 1, 2187, .inl (upd ct (tN (F_X7_placeOf pw x)) ((ct (tN (F_X7_placeOf pw x))) ||| ((1 : Int32) <<< (hs &&& 31)))))), (ze6, .inl (g.2.1 1, 2187, .inl (upd nx (tN zi1) x)))]) X hQ hr (hW) [2, 3, 0, 1] rfl rfl (by rw [hF]) ⟨Nat.le_of_ble_eq_true rfl, Nat.le_of_ble_eq_true rfl⟩ dX7_arrive_61

theorem NC_up {x : Int32} (h : NC x) (q : tN x < 2187) : NC (nI (tN x + 1)) ∧ nI (tN x + 1) = x + 1 := by
  refine ⟨?_, (nI_up h.1 (by omega)).1.symm⟩
  unfold NC
  rw [tN_nI (by omega)]
  exact ⟨rfl, by omega⟩
theorem ar_NC {pw ct nx : Nat → Int32} {zi1 x hs : Int32} (h : NC zi1) : NC (F_X7_arrive zi1 pw ct nx x hs).2.2 := by
  unfold F_X7_arrive
  split
  · split
    · exact h
    · rename_i c
      exact (NC_up h (by
        have q : ¬ 2187 ≤ tN zi1 := fun q => c ((nI_leI (a := 2187) (b := tN zi1) (by omega) (by have := h.2; omega)).mpr q)
        omega)).1
  · exact h
def L1_X7_arriveByAlls (zd : Int32) (pw : Nat → Int32) (fS : Nat → Int32) (x : Int32) (hs : Int32) (fo : Int32) (j1 : Nat) (fze3_1 : Nat → Int32) (fze6_1 : Nat → Int32) (y13_1 : Int32) : (Nat → Int32) × (Nat → Int32) × Int32 := if fo &&& ((fS j1) ^^^ (-1 : Int32)) = 0 then ((((F_X7_arrive y13_1 pw fze3_1 fze6_1 (F_X7_stateAfter zd x (fS j1)) hs).1), ((F_X7_arrive y13_1 pw fze3_1 fze6_1 (F_X7_stateAfter zd x (fS j1)) hs).2.1), (F_X7_arrive y13_1 pw fze3_1 fze6_1 (F_X7_stateAfter zd x (fS j1)) hs).2.2)) else ((fze3_1, fze6_1, y13_1))
def L1_X7_arriveByAll (zd : Int32) (pw : Nat → Int32) (fS : Nat → Int32) (x : Int32) (hs : Int32) (fo : Int32) (i0_ : Nat → Int32) (i1_ : Nat → Int32) (i2_ : Int32) : Nat → (Nat → Int32) × (Nat → Int32) × Int32
  | 0 => (i0_, i1_, i2_)
  | k_ + 1 => L1_X7_arriveByAlls zd pw fS x hs fo k_ ((L1_X7_arriveByAll zd pw fS x hs fo i0_ i1_ i2_ k_).1) ((L1_X7_arriveByAll zd pw fS x hs fo i0_ i1_ i2_ k_).2.1) ((L1_X7_arriveByAll zd pw fS x hs fo i0_ i1_ i2_ k_).2.2)
def F_X7_arriveByAll (zd : Int32) (zi1 : Int32) (pw : Nat → Int32) (ct : Nat → Int32) (nx : Nat → Int32) (fS : Nat → Int32) (rc : Int32) (x : Int32) (hs : Int32) (fo : Int32) : (Nat → Int32) × (Nat → Int32) × Int32 := (((L1_X7_arriveByAll zd pw fS x hs fo ct nx zi1 (tN rc)).1), ((L1_X7_arriveByAll zd pw fS x hs fo ct nx zi1 (tN rc)).2.1), ((L1_X7_arriveByAll zd pw fS x hs fo ct nx zi1 (tN rc)).2.2))
set_option maxHeartbeats 4000000 in
set_option maxRecDepth 100000 in
theorem K_X7_arriveByAll (l : Launch) (g : GG) (z0 : Nat) (zr : Nat) (zc : Nat) (ze1 : Nat) (ze2 : Nat) (ze3 : Nat) (ze4 : Nat) (ze5 : Nat) (ze6 : Nat) (zp : Nat) (zd : Int32) (zt : Int32) (zm : Int32) (zi0 : Int32) (zi1 : Int32) (zi2 : Int32) (zi3 : Int32) (zi4 : Int32) (pw : Nat → Int32) (ct : Nat → Int32) (nx : Nat → Int32) (qs : Nat) (qo : Nat) (qm : Nat) (qh : Nat) (fS : Nat → Int32) (fM : Nat → Int32) (rc : Int32) (rp : Int32) (x : Int32) (hs : Int32) (fo : Int32) (hpw : ∀ j : Nat, j < 128 → pw j = nI (tN (pw j)) ∧ tN (pw j) ≤ 1093) (hn1 : NC zi1) (hRI : RI fS fM rc) : MetV l g yX7_arriveByAll cX7_arriveByAll 5 none 3 0 0 [.ref z0, .int x, .int hs, .int fo] [(z0, .inr (7, [.ref zr, .int (nI zp), .int zd, .int zt, .int zm, .ref zc, .ref ze1, .ref ze2, .ref ze3, .ref ze4, .ref ze5, .ref ze6, .int zi0, .int zi1, .int zi2, .int zi3, .int zi4])), (ze1, .inl (g.2.1 1, 128, .inl pw)), (ze3, .inl (g.2.1 1, 2187, .inl ct)), (ze6, .inl (g.2.1 1, 2187, .inl nx)), (zr, .inr (5, [.ref qs, .ref qo, .ref qm, .int rc, .ref qh, .int rp])), (qs, .inl (g.2.1 1, 128, .inl fS))] (fun u => u = [(z0, .inr (7, [.ref zr, .int (nI zp), .int zd, .int zt, .int zm, .ref zc, .ref ze1, .ref ze2, .ref ze3, .ref ze4, .ref ze5, .ref ze6, .int zi0, .int ((F_X7_arriveByAll zd zi1 pw ct nx fS rc x hs fo).2.2), .int zi2, .int zi3, .int zi4])), (ze1, .inl (g.2.1 1, 128, .inl pw)), (ze3, .inl (g.2.1 1, 2187, .inl ((F_X7_arriveByAll zd zi1 pw ct nx fS rc x hs fo).1))), (ze6, .inl (g.2.1 1, 2187, .inl ((F_X7_arriveByAll zd zi1 pw ct nx fS rc x hs fo).2.1))), (zr, .inr (5, [.ref qs, .ref qo, .ref qm, .int rc, .ref qh, .int rp])), (qs, .inl (g.2.1 1, 128, .inl fS))]) := by
  refine MetV.of (own := RX7) rfl (by decide) (Nat.le_of_ble_eq_true rfl) ?_
  intro p e s m below meth c A ls args Q hQ X hr hin hW hl
  have hx := X.1
  have hb := X.2.1
  have hl : lv_has ls 5 [(0, .ref z0), (1, .int x), (2, .int hs), (3, .int fo)] := hl
  have hle := hRI.le
  refine lv_iconst (v := 0) (pc := 0) hx hb dX7_arriveByAll_0 (by decide) ?_
  refine lv_istore (lv' := [(4, .int 0), (0, .ref z0), (1, .int x), (2, .int hs), (3, .int fo)]) (pc := 1) hx hb dX7_arriveByAll_1 hl (by decide) rfl (fun ls hl => ?_)
  have loop1 : ∀ (fu1 : Nat) (j1 : Nat) (fze3_1 : Nat → Int32) (fze6_1 : Nat → Int32) (y13_1 : Int32), ((tN rc) < fu1 + j1) → (j1 ≤ (tN rc)) → (NC y13_1) → ((fze3_1, fze6_1, y13_1) = L1_X7_arriveByAll zd pw fS x hs fo ct nx zi1 j1) → ∀ (H : Heap) (locs : List Loc) (ls : Array Slot), WD g A s H locs [(z0, .inr (7, [.ref zr, .int (nI zp), .int zd, .int zt, .int zm, .ref zc, .ref ze1, .ref ze2, .ref ze3, .ref ze4, .ref ze5, .ref ze6, .int zi0, .int y13_1, .int zi2, .int zi3, .int zi4])), (ze1, .inl (g.2.1 1, 128, .inl pw)), (ze3, .inl (g.2.1 1, 2187, .inl fze3_1)), (ze6, .inl (g.2.1 1, 2187, .inl fze6_1)), (zr, .inr (5, [.ref qs, .ref qo, .ref qm, .int rc, .ref qh, .int rp])), (qs, .inl (g.2.1 1, 128, .inl fS))] → lv_has ls 5 [(4, .int (nI j1)), (0, .ref z0), (1, .int x), (2, .int hs), (3, .int fo)] → W p l e (RM 3 0 0) s m args below meth c H locs 0 0 Q (F0 m 3 ls []) := by
    intro fu1
    induction fu1 with
    | zero =>
      intro j1 fze3_1 fze6_1 y13_1 hm1 hj1 hn1_1 hst1
      exact absurd hm1 (by omega)
    | succ fu1 ih1 =>
      intro j1 fze3_1 fze6_1 y13_1 hm1 hj1 hn1_1 hst1 H locs ls hW hl
      refine lv_iload (pc := 3) hx hb dX7_arriveByAll_3 (lv_at hl 0 rfl) ?_
      refine lv_aload_n (pc := 5) hx hb dX7_arriveByAll_5 rfl (lv_at hl 1 rfl) ?_
      refine r_get X hW 0 ciX7 0 rfl (by decide) m_113 rfl rfl dX7_arriveByAll_6 ?_
      refine r_getN X hW 4 ciX5 3 rfl (by decide) m_93 rfl rfl dX7_arriveByAll_9 ?_
      rw [hRI.1]
      refine lv_icmp_ge (tgt := 58) (pc := 12) hx hb dX7_arriveByAll_12 rfl (fun c1 => ?_) (fun c1 => ?_)
      · have h2 : (tN rc) ≤ j1 := (nI_leI (a := (tN rc)) (b := j1) (by omega) (by omega)).mp c1
        have hN1 : j1 = (tN rc) := by omega
        rw [hN1] at hst1
        have hs1_0 : (L1_X7_arriveByAll zd pw fS x hs fo ct nx zi1 (tN rc)).1 = fze3_1 := (congrArg (fun z => z.1) hst1).symm
        have hs1_1 : (L1_X7_arriveByAll zd pw fS x hs fo ct nx zi1 (tN rc)).2.1 = fze6_1 := (congrArg (fun z => z.2.1) hst1).symm
        have hs1_2 : (L1_X7_arriveByAll zd pw fS x hs fo ct nx zi1 (tN rc)).2.2 = y13_1 := (congrArg (fun z => z.2.2) hst1).symm
        clear hst1
        subst hs1_0
        subst hs1_1
        subst hs1_2
        have hW : WD g A s _ _ [(z0, .inr (7, [.ref zr, .int (nI zp), .int zd, .int zt, .int zm, .ref zc, .ref ze1, .ref ze2, .ref ze3, .ref ze4, .ref ze5, .ref ze6, .int zi0, .int ((L1_X7_arriveByAll zd pw fS x hs fo ct nx zi1 (tN rc)).2.2), .int zi2, .int zi3, .int zi4])), (ze1, .inl (g.2.1 1, 128, .inl pw)), (ze3, .inl (g.2.1 1, 2187, .inl ((L1_X7_arriveByAll zd pw fS x hs fo ct nx zi1 (tN rc)).1))), (ze6, .inl (g.2.1 1, 2187, .inl ((L1_X7_arriveByAll zd pw fS x hs fo ct nx zi1 (tN rc)).2.1))), (zr, .inr (5, [.ref qs, .ref qo, .ref qm, .int rc, .ref qh, .int rp])), (qs, .inl (g.2.1 1, 128, .inl fS))] := hW
        have hF : F_X7_arriveByAll zd zi1 pw ct nx fS rc x hs fo = (((L1_X7_arriveByAll zd pw fS x hs fo ct nx zi1 (tN rc)).1), ((L1_X7_arriveByAll zd pw fS x hs fo ct nx zi1 (tN rc)).2.1), ((L1_X7_arriveByAll zd pw fS x hs fo ct nx zi1 (tN rc)).2.2)) := show F_X7_arriveByAll zd zi1 pw ct nx fS rc x hs fo = (((L1_X7_arriveByAll zd pw fS x hs fo ct nx zi1 (tN rc)).1), ((L1_X7_arriveByAll zd pw fS x hs fo ct nx zi1 (tN rc)).2.1), ((L1_X7_arriveByAll zd pw fS x hs fo ct nx zi1 (tN rc)).2.2)) from rfl
        exact e_v (u := [(z0, .inr (7, [.ref zr, .int (nI zp), .int zd, .int zt, .int zm, .ref zc, .ref ze1, .ref ze2, .ref ze3, .ref ze4, .ref ze5, .ref ze6, .int zi0, .int ((L1_X7_arriveByAll zd pw fS x hs fo ct nx zi1 (tN rc)).2.2), .int zi2, .int zi3, .int zi4])), (ze1, .inl (g.2.1 1, 128, .inl pw)), (ze3, .inl (g.2.1 1, 2187, .inl ((L1_X7_arriveByAll zd pw fS x hs fo ct nx zi1 (tN rc)).1))), (ze6, .inl (g.2.1 1, 2187, .inl ((L1_X7_arriveByAll zd pw fS x hs fo ct nx zi1 (tN rc)).2.1))), (zr, .inr (5, [.ref qs, .ref qo, .ref qm, .int rc, .ref qh, .int rp])), (qs, .inl (g.2.1 1, 128, .inl fS))]) X hQ hr (hW) [0, 1, 2, 3, 4, 5] rfl rfl (by rw [hF]) ⟨Nat.le_of_ble_eq_true rfl, Nat.le_of_ble_eq_true rfl⟩ dX7_arriveByAll_58
      · have h3 : ¬ ((tN rc) ≤ j1) := fun q => c1 ((nI_leI (a := (tN rc)) (b := j1) (by omega) (by omega)).mpr q)
        refine lv_iload_n (pc := 15) hx hb dX7_arriveByAll_15 rfl (lv_at hl 4 rfl) ?_
        refine lv_aload_n (pc := 16) hx hb dX7_arriveByAll_16 rfl (lv_at hl 1 rfl) ?_
        refine r_get X hW 0 ciX7 0 rfl (by decide) m_113 rfl rfl dX7_arriveByAll_17 ?_
        refine r_getN X hW 4 ciX5 0 rfl (by decide) m_88 rfl rfl dX7_arriveByAll_20 ?_
        refine lv_iload (pc := 23) hx hb dX7_arriveByAll_23 (lv_at hl 0 rfl) ?_
        refine r_iald X hW 5 rfl (vp_in_nI (by omega) (by decide)) dX7_arriveByAll_25 ?_
        refine lv_topi (fun v4 ev4 => ?_)
        obtain rfl : v4 = fS j1 := ev4.trans (by rw [nI_clamp (by omega)])
        refine lv_iconst (v := (-1)) (pc := 26) hx hb dX7_arriveByAll_26 (by decide) ?_
        refine lv_ixor (pc := 27) hx hb dX7_arriveByAll_27 ?_
        refine lv_iand (pc := 28) hx hb dX7_arriveByAll_28 ?_
        refine lv_if_ne (tgt := 52) (pc := 29) hx hb dX7_arriveByAll_29 rfl (fun c5 => ?_) (fun c5 => ?_)
        · refine lv_iinc (v := nI (j1 + 1)) (lv' := [(4, .int (nI (j1 + 1))), (0, .ref z0), (1, .int x), (2, .int hs), (3, .int fo)]) (pc := 52) hx hb dX7_arriveByAll_52 hl (k := 0) rfl (nI_add j1 1) (by decide) rfl (fun ls hl => ?_)
          refine lv_goto (tgt := 3) (pc := 55) hx hb dX7_arriveByAll_55 rfl ?_
          exact ih1 (j1 + 1) fze3_1 fze6_1 y13_1 (by omega) (by omega) (by first | exact hn1_1 | exact ar_NC hn1_1) (by rw [L1_X7_arriveByAll, ← hst1]; exact (show L1_X7_arriveByAlls zd pw fS x hs fo j1 fze3_1 fze6_1 y13_1 = (fze3_1, fze6_1, y13_1) from by rw [L1_X7_arriveByAlls, if_neg c5]).symm) _ _ _ hW (lv_sub hl [0, 1, 2, 3, 4] rfl)
        · refine lv_aload_n (pc := 32) hx hb dX7_arriveByAll_32 rfl (lv_at hl 1 rfl) ?_
          refine lv_aload_n (pc := 33) hx hb dX7_arriveByAll_33 rfl (lv_at hl 1 rfl) ?_
          refine lv_iload_n (pc := 34) hx hb dX7_arriveByAll_34 rfl (lv_at hl 2 rfl) ?_
          refine lv_aload_n (pc := 35) hx hb dX7_arriveByAll_35 rfl (lv_at hl 1 rfl) ?_
          refine r_get X hW 0 ciX7 0 rfl (by decide) m_113 rfl rfl dX7_arriveByAll_36 ?_
          refine r_getN X hW 4 ciX5 0 rfl (by decide) m_88 rfl rfl dX7_arriveByAll_39 ?_
          refine lv_iload (pc := 42) hx hb dX7_arriveByAll_42 (lv_at hl 0 rfl) ?_
          refine r_iald X hW 5 rfl (vp_in_nI (by omega) (by decide)) dX7_arriveByAll_44 ?_
          refine lv_topi (fun v8 ev8 => ?_)
          obtain rfl : v8 = fS j1 := ev8.trans (by rw [nI_clamp (by omega)])
          refine c_Vi (pc := 45) (As := [.int x, .int (fS j1)]) (rest := [.ref z0]) (wr := [(ze1, .inl (g.2.1 1, 128, .inl pw)), (ze3, .inl (g.2.1 1, 2187, .inl fze3_1)), (ze6, .inl (g.2.1 1, 2187, .inl fze6_1)), (zr, .inr (5, [.ref qs, .ref qo, .ref qm, .int rc, .ref qh, .int rp])), (qs, .inl (g.2.1 1, 128, .inl fS))]) X hW 0 ciX7 rfl (K_X7_stateAfter l g z0 zr zc ze1 ze2 ze3 ze4 ze5 ze6 zp zd zt zm zi0 y13_1 zi2 zi3 zi4 x (fS j1)) vX7_133 [0] [1, 2, 3, 4, 5] rfl rfl rfl rfl rfl rfl hl.1 rfl (Nat.le_of_ble_eq_true rfl) ⟨Nat.le_of_ble_eq_true rfl, Nat.le_of_ble_eq_true rfl⟩ ⟨Nat.le_of_ble_eq_true rfl, Nat.le_of_ble_eq_true rfl⟩ dX7_arriveByAll_45 (fun r9 u9 H locs hq hW => ?_)
          obtain ⟨rfl, rfl⟩ := hq
          have hW : WD g A s _ _ [(ze1, .inl (g.2.1 1, 128, .inl pw)), (ze3, .inl (g.2.1 1, 2187, .inl fze3_1)), (ze6, .inl (g.2.1 1, 2187, .inl fze6_1)), (zr, .inr (5, [.ref qs, .ref qo, .ref qm, .int rc, .ref qh, .int rp])), (qs, .inl (g.2.1 1, 128, .inl fS)), (z0, .inr (7, [.ref zr, .int (nI zp), .int zd, .int zt, .int zm, .ref zc, .ref ze1, .ref ze2, .ref ze3, .ref ze4, .ref ze5, .ref ze6, .int zi0, .int y13_1, .int zi2, .int zi3, .int zi4]))] := hW
          refine lv_iload_n (pc := 48) hx hb dX7_arriveByAll_48 rfl (lv_at hl 3 rfl) ?_
          refine c_Vv (pc := 49) (As := [.int (F_X7_stateAfter zd x (fS j1)), .int hs]) (rest := []) (wr := [(zr, .inr (5, [.ref qs, .ref qo, .ref qm, .int rc, .ref qh, .int rp])), (qs, .inl (g.2.1 1, 128, .inl fS))]) X hW 5 ciX7 rfl (K_X7_arrive l g z0 zr zc ze1 ze2 ze3 ze4 ze5 ze6 zp zd zt zm zi0 y13_1 zi2 zi3 zi4 pw fze3_1 fze6_1 (F_X7_stateAfter zd x (fS j1)) hs hpw hn1_1) vX7_121 [5, 0, 1, 2] [3, 4] rfl rfl rfl rfl rfl rfl hl.1 rfl (Nat.le_of_ble_eq_true rfl) ⟨Nat.le_of_ble_eq_true rfl, Nat.le_of_ble_eq_true rfl⟩ ⟨Nat.le_of_ble_eq_true rfl, Nat.le_of_ble_eq_true rfl⟩ dX7_arriveByAll_49 (fun u9 H locs hq hW => ?_)
          obtain rfl := hq
          have hW : WD g A s _ _ [(zr, .inr (5, [.ref qs, .ref qo, .ref qm, .int rc, .ref qh, .int rp])), (qs, .inl (g.2.1 1, 128, .inl fS)), (z0, .inr (7, [.ref zr, .int (nI zp), .int zd, .int zt, .int zm, .ref zc, .ref ze1, .ref ze2, .ref ze3, .ref ze4, .ref ze5, .ref ze6, .int zi0, .int ((F_X7_arrive y13_1 pw fze3_1 fze6_1 (F_X7_stateAfter zd x (fS j1)) hs).2.2), .int zi2, .int zi3, .int zi4])), (ze1, .inl (g.2.1 1, 128, .inl pw)), (ze3, .inl (g.2.1 1, 2187, .inl ((F_X7_arrive y13_1 pw fze3_1 fze6_1 (F_X7_stateAfter zd x (fS j1)) hs).1))), (ze6, .inl (g.2.1 1, 2187, .inl ((F_X7_arrive y13_1 pw fze3_1 fze6_1 (F_X7_stateAfter zd x (fS j1)) hs).2.1)))] := hW
          refine lv_iinc (v := nI (j1 + 1)) (lv' := [(4, .int (nI (j1 + 1))), (0, .ref z0), (1, .int x), (2, .int hs), (3, .int fo)]) (pc := 52) hx hb dX7_arriveByAll_52 hl (k := 0) rfl (nI_add j1 1) (by decide) rfl (fun ls hl => ?_)
          refine lv_goto (tgt := 3) (pc := 55) hx hb dX7_arriveByAll_55 rfl ?_
          have hW : WD g A s _ _ [(z0, .inr (7, [.ref zr, .int (nI zp), .int zd, .int zt, .int zm, .ref zc, .ref ze1, .ref ze2, .ref ze3, .ref ze4, .ref ze5, .ref ze6, .int zi0, .int ((F_X7_arrive y13_1 pw fze3_1 fze6_1 (F_X7_stateAfter zd x (fS j1)) hs).2.2), .int zi2, .int zi3, .int zi4])), (ze1, .inl (g.2.1 1, 128, .inl pw)), (ze3, .inl (g.2.1 1, 2187, .inl ((F_X7_arrive y13_1 pw fze3_1 fze6_1 (F_X7_stateAfter zd x (fS j1)) hs).1))), (ze6, .inl (g.2.1 1, 2187, .inl ((F_X7_arrive y13_1 pw fze3_1 fze6_1 (F_X7_stateAfter zd x (fS j1)) hs).2.1))), (zr, .inr (5, [.ref qs, .ref qo, .ref qm, .int rc, .ref qh, .int rp])), (qs, .inl (g.2.1 1, 128, .inl fS))] := hW.pick [2, 3, 4, 5, 0, 1] rfl rfl
          exact ih1 (j1 + 1) ((F_X7_arrive y13_1 pw fze3_1 fze6_1 (F_X7_stateAfter zd x (fS j1)) hs).1) ((F_X7_arrive y13_1 pw fze3_1 fze6_1 (F_X7_stateAfter zd x (fS j1)) hs).2.1) ((F_X7_arrive y13_1 pw fze3_1 fze6_1 (F_X7_stateAfter zd x (fS j1)) hs).2.2) (by omega) (by omega) (by first | exact hn1_1 | exact ar_NC hn1_1) (by rw [L1_X7_arriveByAll, ← hst1]; exact (show L1_X7_arriveByAlls zd pw fS x hs fo j1 fze3_1 fze6_1 y13_1 = (((F_X7_arrive y13_1 pw fze3_1 fze6_1 (F_X7_stateAfter zd x (fS j1)) hs).1), ((F_X7_arrive y13_1 pw fze3_1 fze6_1 (F_X7_stateAfter zd x (fS j1)) hs).2.1), (F_X7_arrive y13_1 pw fze3_1 fze6_1 (F_X7_stateAfter zd x (fS j1)) hs).2.2) from by rw [L1_X7_arriveByAlls, if_pos c5]).symm) _ _ _ hW (lv_sub hl [0, 1, 2, 3, 4] rfl)
  exact loop1 ((tN rc) + 1) 0 ct nx zi1 (by omega) (by omega) hn1 rfl _ _ _ hW (lv_sub hl [0, 1, 2, 3, 4] rfl)

def L1_X7_findRowss (cA : Nat → Int32) (x : Int32) (ho : Nat) (tg : Int32) (j1 : Nat) (fqh_1 : Nat → Int32) : (Nat → Int32) := if hasv (F_X7_knownIn x) (nI j1) = 0 then ((F_X5_append fqh_1 j1 (0 : Int32))) else ((F_X5_append fqh_1 j1 (((cA (ho * 7 + j1)) &&& tg) &&& ((F_X7_knownIn x) ^^^ (-1 : Int32)))))
def L1_X7_findRows (cA : Nat → Int32) (x : Int32) (ho : Nat) (tg : Int32) (i0_ : Nat → Int32) : Nat → (Nat → Int32)
  | 0 => (i0_)
  | k_ + 1 => L1_X7_findRowss cA x ho tg k_ (L1_X7_findRows cA x ho tg i0_ k_)
def F_X7_findRows (zp : Nat) (cA : Nat → Int32) (fS : Nat → Int32) (fO : Nat → Int32) (fM : Nat → Int32) (fC : Nat → Int32) (rc : Int32) (x : Int32) (ho : Nat) (tg : Int32) : (Nat → Int32) × (Nat → Int32) × (Nat → Int32) × (Nat → Int32) × Int32 := (((FA (L1_X7_findRows cA x ho tg fC zp) zp 8 0 0 0 0 fS fO (F_X5_forget fS fM rc) 0).1), ((FA (L1_X7_findRows cA x ho tg fC zp) zp 8 0 0 0 0 fS fO (F_X5_forget fS fM rc) 0).2.1), ((FA (L1_X7_findRows cA x ho tg fC zp) zp 8 0 0 0 0 fS fO (F_X5_forget fS fM rc) 0).2.2.1), (L1_X7_findRows cA x ho tg fC zp), (FA (L1_X7_findRows cA x ho tg fC zp) zp 8 0 0 0 0 fS fO (F_X5_forget fS fM rc) 0).2.2.2)
set_option maxHeartbeats 4000000 in
set_option maxRecDepth 100000 in
theorem K_X7_findRows (l : Launch) (g : GG) (z0 : Nat) (zr : Nat) (zc : Nat) (ze1 : Nat) (ze2 : Nat) (ze3 : Nat) (ze4 : Nat) (ze5 : Nat) (ze6 : Nat) (zp : Nat) (zd : Int32) (zt : Int32) (zm : Int32) (zi0 : Int32) (zi1 : Int32) (zi2 : Int32) (zi3 : Int32) (zi4 : Int32) (cA : Nat → Int32) (qs : Nat) (qo : Nat) (qm : Nat) (qh : Nat) (fS : Nat → Int32) (fO : Nat → Int32) (fM : Nat → Int32) (fC : Nat → Int32) (rc : Int32) (rp : Int32) (x : Int32) (ho : Nat) (tg : Int32) (hzp : zp ≤ 7) (hho : ho ≤ 24) (hRI : RI fS fM rc) : MetV l g yX7_findRows cX7_findRows 6 none 11 0 0 [.ref z0, .int x, .int (nI ho), .int tg] [(z0, .inr (7, [.ref zr, .int (nI zp), .int zd, .int zt, .int zm, .ref zc, .ref ze1, .ref ze2, .ref ze3, .ref ze4, .ref ze5, .ref ze6, .int zi0, .int zi1, .int zi2, .int zi3, .int zi4])), (zc, .inl (g.2.1 1, 175, .inl cA)), (zr, .inr (5, [.ref qs, .ref qo, .ref qm, .int rc, .ref qh, .int rp])), (qs, .inl (g.2.1 1, 128, .inl fS)), (qo, .inl (g.2.1 1, 128, .inl fO)), (qm, .inl (g.2.1 3, 128, .inl fM)), (qh, .inl (g.2.1 1, 7, .inl fC))] (fun u => u = [(z0, .inr (7, [.ref zr, .int (nI zp), .int zd, .int zt, .int zm, .ref zc, .ref ze1, .ref ze2, .ref ze3, .ref ze4, .ref ze5, .ref ze6, .int zi0, .int zi1, .int zi2, .int zi3, .int zi4])), (zc, .inl (g.2.1 1, 175, .inl cA)), (zr, .inr (5, [.ref qs, .ref qo, .ref qm, .int ((F_X7_findRows zp cA fS fO fM fC rc x ho tg).2.2.2.2), .ref qh, .int (nI zp)])), (qs, .inl (g.2.1 1, 128, .inl ((F_X7_findRows zp cA fS fO fM fC rc x ho tg).1))), (qo, .inl (g.2.1 1, 128, .inl ((F_X7_findRows zp cA fS fO fM fC rc x ho tg).2.1))), (qm, .inl (g.2.1 3, 128, .inl ((F_X7_findRows zp cA fS fO fM fC rc x ho tg).2.2.1))), (qh, .inl (g.2.1 1, 7, .inl ((F_X7_findRows zp cA fS fO fM fC rc x ho tg).2.2.2.1)))]) := by
  refine MetV.of (own := RX7) rfl (by decide) (Nat.le_of_ble_eq_true rfl) ?_
  intro p e s m below meth c A ls args Q hQ X hr hin hW hl
  have hx := X.1
  have hb := X.2.1
  have hl : lv_has ls 6 [(0, .ref z0), (1, .int x), (2, .int (nI ho)), (3, .int tg)] := hl
  refine lv_iload_n (pc := 0) hx hb dX7_findRows_0 rfl (lv_at hl 1 rfl) ?_
  refine c_Si (pc := 1) (As := [.int x]) (rest := []) (wr := [(z0, .inr (7, [.ref zr, .int (nI zp), .int zd, .int zt, .int zm, .ref zc, .ref ze1, .ref ze2, .ref ze3, .ref ze4, .ref ze5, .ref ze6, .int zi0, .int zi1, .int zi2, .int zi3, .int zi4])), (zc, .inl (g.2.1 1, 175, .inl cA)), (zr, .inr (5, [.ref qs, .ref qo, .ref qm, .int rc, .ref qh, .int rp])), (qs, .inl (g.2.1 1, 128, .inl fS)), (qo, .inl (g.2.1 1, 128, .inl fO)), (qm, .inl (g.2.1 3, 128, .inl fM)), (qh, .inl (g.2.1 1, 7, .inl fC))]) X hW (K_X7_knownIn l g x) vX7_44 [] [0, 1, 2, 3, 4, 5, 6] rfl rfl rfl rfl rfl rfl hl.1 rfl (Nat.le_of_ble_eq_true rfl) ⟨Nat.le_of_ble_eq_true rfl, Nat.le_of_ble_eq_true rfl⟩ ⟨Nat.le_of_ble_eq_true rfl, Nat.le_of_ble_eq_true rfl⟩ dX7_findRows_1 (fun r1 u9 H locs hq hW => ?_)
  obtain ⟨rfl, rfl⟩ := hq
  have hW : WD g A s _ _ [(z0, .inr (7, [.ref zr, .int (nI zp), .int zd, .int zt, .int zm, .ref zc, .ref ze1, .ref ze2, .ref ze3, .ref ze4, .ref ze5, .ref ze6, .int zi0, .int zi1, .int zi2, .int zi3, .int zi4])), (zc, .inl (g.2.1 1, 175, .inl cA)), (zr, .inr (5, [.ref qs, .ref qo, .ref qm, .int rc, .ref qh, .int rp])), (qs, .inl (g.2.1 1, 128, .inl fS)), (qo, .inl (g.2.1 1, 128, .inl fO)), (qm, .inl (g.2.1 3, 128, .inl fM)), (qh, .inl (g.2.1 1, 7, .inl fC))] := hW
  refine lv_istore (lv' := [(4, .int (F_X7_knownIn x)), (0, .ref z0), (1, .int x), (2, .int (nI ho)), (3, .int tg)]) (pc := 4) hx hb dX7_findRows_4 hl (by decide) rfl (fun ls hl => ?_)
  refine lv_aload_n (pc := 6) hx hb dX7_findRows_6 rfl (lv_at hl 1 rfl) ?_
  refine r_get X hW 0 ciX7 0 rfl (by decide) m_113 rfl rfl dX7_findRows_7 ?_
  refine c_Vv (pc := 10) (As := []) (rest := []) (wr := [(z0, .inr (7, [.ref zr, .int (nI zp), .int zd, .int zt, .int zm, .ref zc, .ref ze1, .ref ze2, .ref ze3, .ref ze4, .ref ze5, .ref ze6, .int zi0, .int zi1, .int zi2, .int zi3, .int zi4])), (zc, .inl (g.2.1 1, 175, .inl cA))]) X hW 2 ciX5 rfl (K_X5_forget l g zr qs qo qm qh fS fO fM fC rc rp hRI) vX7_136 [2, 3, 4, 5, 6] [0, 1] rfl rfl rfl rfl rfl rfl hl.1 rfl (Nat.le_of_ble_eq_true rfl) ⟨Nat.le_of_ble_eq_true rfl, Nat.le_of_ble_eq_true rfl⟩ ⟨Nat.le_of_ble_eq_true rfl, Nat.le_of_ble_eq_true rfl⟩ dX7_findRows_10 (fun u9 H locs hq hW => ?_)
  obtain rfl := hq
  have hW : WD g A s _ _ [(z0, .inr (7, [.ref zr, .int (nI zp), .int zd, .int zt, .int zm, .ref zc, .ref ze1, .ref ze2, .ref ze3, .ref ze4, .ref ze5, .ref ze6, .int zi0, .int zi1, .int zi2, .int zi3, .int zi4])), (zc, .inl (g.2.1 1, 175, .inl cA)), (zr, .inr (5, [.ref qs, .ref qo, .ref qm, .int 0, .ref qh, .int 0])), (qs, .inl (g.2.1 1, 128, .inl fS)), (qo, .inl (g.2.1 1, 128, .inl fO)), (qm, .inl (g.2.1 3, 128, .inl (F_X5_forget fS fM rc))), (qh, .inl (g.2.1 1, 7, .inl fC))] := hW
  refine lv_iconst (v := 0) (pc := 13) hx hb dX7_findRows_13 (by decide) ?_
  refine lv_istore (lv' := [(5, .int 0), (4, .int (F_X7_knownIn x)), (0, .ref z0), (1, .int x), (2, .int (nI ho)), (3, .int tg)]) (pc := 14) hx hb dX7_findRows_14 hl (by decide) rfl (fun ls hl => ?_)
  have loop1 : ∀ (fu1 : Nat) (j1 : Nat) (fqh_1 : Nat → Int32), (zp < fu1 + j1) → (j1 ≤ zp) → (fqh_1 = L1_X7_findRows cA x ho tg fC j1) → ∀ (H : Heap) (locs : List Loc) (ls : Array Slot), WD g A s H locs [(z0, .inr (7, [.ref zr, .int (nI zp), .int zd, .int zt, .int zm, .ref zc, .ref ze1, .ref ze2, .ref ze3, .ref ze4, .ref ze5, .ref ze6, .int zi0, .int zi1, .int zi2, .int zi3, .int zi4])), (zc, .inl (g.2.1 1, 175, .inl cA)), (zr, .inr (5, [.ref qs, .ref qo, .ref qm, .int 0, .ref qh, .int (nI j1)])), (qs, .inl (g.2.1 1, 128, .inl fS)), (qo, .inl (g.2.1 1, 128, .inl fO)), (qm, .inl (g.2.1 3, 128, .inl (F_X5_forget fS fM rc))), (qh, .inl (g.2.1 1, 7, .inl fqh_1))] → lv_has ls 6 [(5, .int (nI j1)), (4, .int (F_X7_knownIn x)), (0, .ref z0), (1, .int x), (2, .int (nI ho)), (3, .int tg)] → W p l e (RM 11 0 0) s m args below meth c H locs 0 0 Q (F0 m 16 ls []) := by
    intro fu1
    induction fu1 with
    | zero =>
      intro j1 fqh_1 hm1 hj1 hst1
      exact absurd hm1 (by omega)
    | succ fu1 ih1 =>
      intro j1 fqh_1 hm1 hj1 hst1 H locs ls hW hl
      refine lv_iload (pc := 16) hx hb dX7_findRows_16 (lv_at hl 0 rfl) ?_
      refine lv_aload_n (pc := 18) hx hb dX7_findRows_18 rfl (lv_at hl 2 rfl) ?_
      refine r_get X hW 0 ciX7 1 rfl (by decide) m_114 rfl rfl dX7_findRows_19 ?_
      refine lv_icmp_ge (tgt := 71) (pc := 22) hx hb dX7_findRows_22 rfl (fun c2 => ?_) (fun c2 => ?_)
      · have h3 : zp ≤ j1 := (nI_leI (a := zp) (b := j1) (by omega) (by omega)).mp c2
        have hN1 : j1 = zp := by omega
        rw [hN1] at hW
        rw [hN1] at hst1
        subst hst1
        have hW : WD g A s _ _ [(z0, .inr (7, [.ref zr, .int (nI zp), .int zd, .int zt, .int zm, .ref zc, .ref ze1, .ref ze2, .ref ze3, .ref ze4, .ref ze5, .ref ze6, .int zi0, .int zi1, .int zi2, .int zi3, .int zi4])), (zc, .inl (g.2.1 1, 175, .inl cA)), (zr, .inr (5, [.ref qs, .ref qo, .ref qm, .int 0, .ref qh, .int (nI zp)])), (qs, .inl (g.2.1 1, 128, .inl fS)), (qo, .inl (g.2.1 1, 128, .inl fO)), (qm, .inl (g.2.1 3, 128, .inl (F_X5_forget fS fM rc))), (qh, .inl (g.2.1 1, 7, .inl (L1_X7_findRows cA x ho tg fC zp)))] := hW
        refine lv_aload_n (pc := 71) hx hb dX7_findRows_71 rfl (lv_at hl 2 rfl) ?_
        refine r_get X hW 0 ciX7 0 rfl (by decide) m_113 rfl rfl dX7_findRows_72 ?_
        refine lv_iconst (v := 0) (pc := 75) hx hb dX7_findRows_75 (by decide) ?_
        refine lv_iconst (v := 0) (pc := 76) hx hb dX7_findRows_76 (by decide) ?_
        refine lv_iconst (v := 0) (pc := 77) hx hb dX7_findRows_77 (by decide) ?_
        refine lv_iconst (v := 0) (pc := 78) hx hb dX7_findRows_78 (by decide) ?_
        refine c_VNv (pc := 79) (As := [.int 0, .int 0, .int 0, .int 0]) (rest := []) (wr := [(z0, .inr (7, [.ref zr, .int (nI zp), .int zd, .int zt, .int zm, .ref zc, .ref ze1, .ref ze2, .ref ze3, .ref ze4, .ref ze5, .ref ze6, .int zi0, .int zi1, .int zi2, .int zi3, .int zi4])), (zc, .inl (g.2.1 1, 175, .inl cA))]) X hW 2 ciX5 rfl (K_fa l g zr qs qo qm qh (L1_X7_findRows cA x ho tg fC zp) zp hzp 8 0 (by omega) (Nat.zero_le _) fS fO (F_X5_forget fS fM rc) 0 0 0 0 s7_0 (RI_forget hRI)) vX7_143 [2, 3, 4, 5, 6] [0, 1] rfl rfl rfl rfl rfl rfl hl.1 rfl (Nat.le_of_ble_eq_true rfl) ⟨Nat.le_of_ble_eq_true rfl, Nat.le_of_ble_eq_true rfl⟩ ⟨Nat.le_of_ble_eq_true rfl, Nat.le_of_ble_eq_true rfl⟩ dX7_findRows_79 (fun u9 H locs hq hW => ?_)
        obtain rfl := hq
        have hW : WD g A s _ _ [(z0, .inr (7, [.ref zr, .int (nI zp), .int zd, .int zt, .int zm, .ref zc, .ref ze1, .ref ze2, .ref ze3, .ref ze4, .ref ze5, .ref ze6, .int zi0, .int zi1, .int zi2, .int zi3, .int zi4])), (zc, .inl (g.2.1 1, 175, .inl cA)), (zr, .inr (5, [.ref qs, .ref qo, .ref qm, .int ((FA (L1_X7_findRows cA x ho tg fC zp) zp 8 0 0 0 0 fS fO (F_X5_forget fS fM rc) 0).2.2.2), .ref qh, .int (nI zp)])), (qs, .inl (g.2.1 1, 128, .inl ((FA (L1_X7_findRows cA x ho tg fC zp) zp 8 0 0 0 0 fS fO (F_X5_forget fS fM rc) 0).1))), (qo, .inl (g.2.1 1, 128, .inl ((FA (L1_X7_findRows cA x ho tg fC zp) zp 8 0 0 0 0 fS fO (F_X5_forget fS fM rc) 0).2.1))), (qm, .inl (g.2.1 3, 128, .inl ((FA (L1_X7_findRows cA x ho tg fC zp) zp 8 0 0 0 0 fS fO (F_X5_forget fS fM rc) 0).2.2.1))), (qh, .inl (g.2.1 1, 7, .inl (L1_X7_findRows cA x ho tg fC zp)))] := hW
        have hF : F_X7_findRows zp cA fS fO fM fC rc x ho tg = (((FA (L1_X7_findRows cA x ho tg fC zp) zp 8 0 0 0 0 fS fO (F_X5_forget fS fM rc) 0).1), ((FA (L1_X7_findRows cA x ho tg fC zp) zp 8 0 0 0 0 fS fO (F_X5_forget fS fM rc) 0).2.1), ((FA (L1_X7_findRows cA x ho tg fC zp) zp 8 0 0 0 0 fS fO (F_X5_forget fS fM rc) 0).2.2.1), (L1_X7_findRows cA x ho tg fC zp), (FA (L1_X7_findRows cA x ho tg fC zp) zp 8 0 0 0 0 fS fO (F_X5_forget fS fM rc) 0).2.2.2) := show F_X7_findRows zp cA fS fO fM fC rc x ho tg = (((FA (L1_X7_findRows cA x ho tg fC zp) zp 8 0 0 0 0 fS fO (F_X5_forget fS fM rc) 0).1), ((FA (L1_X7_findRows cA x ho tg fC zp) zp 8 0 0 0 0 fS fO (F_X5_forget fS fM rc) 0).2.1), ((FA (L1_X7_findRows cA x ho tg fC zp) zp 8 0 0 0 0 fS fO (F_X5_forget fS fM rc) 0).2.2.1), (L1_X7_findRows cA x ho tg fC zp), (FA (L1_X7_findRows cA x ho tg fC zp) zp 8 0 0 0 0 fS fO (F_X5_forget fS fM rc) 0).2.2.2) from rfl
        exact e_v (u := [(z0, .inr (7, [.ref zr, .int (nI zp), .int zd, .int zt, .int zm, .ref zc, .ref ze1, .ref ze2, .ref ze3, .ref ze4, .ref ze5, .ref ze6, .int zi0, .int zi1, .int zi2, .int zi3, .int zi4])), (zc, .inl (g.2.1 1, 175, .inl cA)), (zr, .inr (5, [.ref qs, .ref qo, .ref qm, .int ((FA (L1_X7_findRows cA x ho tg fC zp) zp 8 0 0 0 0 fS fO (F_X5_forget fS fM rc) 0).2.2.2), .ref qh, .int (nI zp)])), (qs, .inl (g.2.1 1, 128, .inl ((FA (L1_X7_findRows cA x ho tg fC zp) zp 8 0 0 0 0 fS fO (F_X5_forget fS fM rc) 0).1))), (qo, .inl (g.2.1 1, 128, .inl ((FA (L1_X7_findRows cA x ho tg fC zp) zp 8 0 0 0 0 fS fO (F_X5_forget fS fM rc) 0).2.1))), (qm, .inl (g.2.1 3, 128, .inl ((FA (L1_X7_findRows cA x ho tg fC zp) zp 8 0 0 0 0 fS fO (F_X5_forget fS fM rc) 0).2.2.1))), (qh, .inl (g.2.1 1, 7, .inl (L1_X7_findRows cA x ho tg fC zp)))]) X hQ hr (hW) [0, 1, 2, 3, 4, 5, 6] rfl rfl (by rw [hF]) ⟨Nat.le_of_ble_eq_true rfl, Nat.le_of_ble_eq_true rfl⟩ dX7_findRows_82
      · have h4 : ¬ (zp ≤ j1) := fun q => c2 ((nI_leI (a := zp) (b := j1) (by omega) (by omega)).mpr q)
        refine lv_aload_n (pc := 25) hx hb dX7_findRows_25 rfl (lv_at hl 2 rfl) ?_
        refine r_get X hW 0 ciX7 0 rfl (by decide) m_113 rfl rfl dX7_findRows_26 ?_
        refine lv_iload (pc := 29) hx hb dX7_findRows_29 (lv_at hl 1 rfl) ?_
        refine lv_iload (pc := 31) hx hb dX7_findRows_31 (lv_at hl 0 rfl) ?_
        refine c_SNi (pc := 33) (As := [.int (F_X7_knownIn x), .int (nI j1)]) (rest := [.ref zr]) (wr := [(z0, .inr (7, [.ref zr, .int (nI zp), .int zd, .int zt, .int zm, .ref zc, .ref ze1, .ref ze2, .ref ze3, .ref ze4, .ref ze5, .ref ze6, .int zi0, .int zi1, .int zi2, .int zi3, .int zi4])), (zc, .inl (g.2.1 1, 175, .inl cA)), (zr, .inr (5, [.ref qs, .ref qo, .ref qm, .int 0, .ref qh, .int (nI j1)])), (qs, .inl (g.2.1 1, 128, .inl fS)), (qo, .inl (g.2.1 1, 128, .inl fO)), (qm, .inl (g.2.1 3, 128, .inl (F_X5_forget fS fM rc))), (qh, .inl (g.2.1 1, 7, .inl fqh_1))]) X hW (C_X11_has l g (F_X7_knownIn x) (nI j1)) vX7_77 [] [0, 1, 2, 3, 4, 5, 6] rfl rfl rfl rfl rfl rfl hl.1 rfl (Nat.le_of_ble_eq_true rfl) ⟨Nat.le_of_ble_eq_true rfl, Nat.le_of_ble_eq_true rfl⟩ ⟨Nat.le_of_ble_eq_true rfl, Nat.le_of_ble_eq_true rfl⟩ dX7_findRows_33 (fun r5 u9 H locs hq hW => ?_)
        obtain ⟨rfl, rfl⟩ := hq
        have hW : WD g A s _ _ [(z0, .inr (7, [.ref zr, .int (nI zp), .int zd, .int zt, .int zm, .ref zc, .ref ze1, .ref ze2, .ref ze3, .ref ze4, .ref ze5, .ref ze6, .int zi0, .int zi1, .int zi2, .int zi3, .int zi4])), (zc, .inl (g.2.1 1, 175, .inl cA)), (zr, .inr (5, [.ref qs, .ref qo, .ref qm, .int 0, .ref qh, .int (nI j1)])), (qs, .inl (g.2.1 1, 128, .inl fS)), (qo, .inl (g.2.1 1, 128, .inl fO)), (qm, .inl (g.2.1 3, 128, .inl (F_X5_forget fS fM rc))), (qh, .inl (g.2.1 1, 7, .inl fqh_1))] := hW
        refine lv_if_eq (tgt := 61) (pc := 36) hx hb dX7_findRows_36 rfl (fun c6 => ?_) (fun c6 => ?_)
        · refine lv_iconst (v := 0) (pc := 61) hx hb dX7_findRows_61 (by decide) ?_
          refine c_Vv (pc := 62) (As := [.int 0]) (rest := []) (wr := [(z0, .inr (7, [.ref zr, .int (nI zp), .int zd, .int zt, .int zm, .ref zc, .ref ze1, .ref ze2, .ref ze3, .ref ze4, .ref ze5, .ref ze6, .int zi0, .int zi1, .int zi2, .int zi3, .int zi4])), (zc, .inl (g.2.1 1, 175, .inl cA))]) X hW 2 ciX5 rfl (K_X5_append l g zr qs qo qm qh fS fO (F_X5_forget fS fM rc) fqh_1 (0 : Int32) j1 (0 : Int32) (by omega)) vX7_139 [2, 3, 4, 5, 6] [0, 1] rfl rfl rfl rfl rfl rfl hl.1 rfl (Nat.le_of_ble_eq_true rfl) ⟨Nat.le_of_ble_eq_true rfl, Nat.le_of_ble_eq_true rfl⟩ ⟨Nat.le_of_ble_eq_true rfl, Nat.le_of_ble_eq_true rfl⟩ dX7_findRows_62 (fun u9 H locs hq hW => ?_)
          obtain rfl := hq
          have hW : WD g A s _ _ [(z0, .inr (7, [.ref zr, .int (nI zp), .int zd, .int zt, .int zm, .ref zc, .ref ze1, .ref ze2, .ref ze3, .ref ze4, .ref ze5, .ref ze6, .int zi0, .int zi1, .int zi2, .int zi3, .int zi4])), (zc, .inl (g.2.1 1, 175, .inl cA)), (zr, .inr (5, [.ref qs, .ref qo, .ref qm, .int (0 : Int32), .ref qh, .int (nI (j1 + 1))])), (qs, .inl (g.2.1 1, 128, .inl fS)), (qo, .inl (g.2.1 1, 128, .inl fO)), (qm, .inl (g.2.1 3, 128, .inl (F_X5_forget fS fM rc))), (qh, .inl (g.2.1 1, 7, .inl (F_X5_append fqh_1 j1 (0 : Int32))))] := hW
          refine lv_iinc (v := nI (j1 + 1)) (lv' := [(5, .int (nI (j1 + 1))), (4, .int (F_X7_knownIn x)), (0, .ref z0), (1, .int x), (2, .int (nI ho)), (3, .int tg)]) (pc := 65) hx hb dX7_findRows_65 hl (k := 0) rfl (nI_add j1 1) (by decide) rfl (fun ls hl => ?_)
          refine lv_goto (tgt := 16) (pc := 68) hx hb dX7_findRows_68 rfl ?_
          exact ih1 (j1 + 1) (F_X5_append fqh_1 j1 (0 : Int32)) (by omega) (by omega) (by rw [L1_X7_findRows, ← hst1]; exact (show L1_X7_findRowss cA x ho tg j1 fqh_1 = (F_X5_append fqh_1 j1 (0 : Int32)) from by rw [L1_X7_findRowss, if_pos c6]).symm) _ _ _ hW (lv_sub hl [0, 1, 2, 3, 4, 5] rfl)
        · refine lv_aload_n (pc := 39) hx hb dX7_findRows_39 rfl (lv_at hl 2 rfl) ?_
          refine r_get X hW 0 ciX7 5 rfl (by decide) m_118 rfl rfl dX7_findRows_40 ?_
          refine lv_iload_n (pc := 43) hx hb dX7_findRows_43 rfl (lv_at hl 4 rfl) ?_
          refine lv_bipush (v := 7) (pc := 44) hx hb dX7_findRows_44 (by decide) ?_
          refine lv_imul (pc := 46) hx hb dX7_findRows_46 ?_
          refine lv_topi (fun v9 ev9 => ?_)
          obtain rfl : v9 = nI (ho * 7) := ev9.trans (pk_mul ho 7)
          refine lv_iload (pc := 47) hx hb dX7_findRows_47 (lv_at hl 0 rfl) ?_
          refine lv_iadd (pc := 49) hx hb dX7_findRows_49 ?_
          refine lv_topi (fun v10 ev10 => ?_)
          obtain rfl : v10 = nI (ho * 7 + j1) := ev10.trans (nI_add _ _)
          refine r_iald X hW 1 rfl (vp_in_nI (by omega) (by decide)) dX7_findRows_50 ?_
          refine lv_topi (fun v11 ev11 => ?_)
          obtain rfl : v11 = cA (ho * 7 + j1) := ev11.trans (by rw [nI_clamp (by omega)])
          refine lv_iload_n (pc := 51) hx hb dX7_findRows_51 rfl (lv_at hl 5 rfl) ?_
          refine lv_iand (pc := 52) hx hb dX7_findRows_52 ?_
          refine lv_iload (pc := 53) hx hb dX7_findRows_53 (lv_at hl 1 rfl) ?_
          refine lv_iconst (v := (-1)) (pc := 55) hx hb dX7_findRows_55 (by decide) ?_
          refine lv_ixor (pc := 56) hx hb dX7_findRows_56 ?_
          refine lv_iand (pc := 57) hx hb dX7_findRows_57 ?_
          refine lv_goto (tgt := 62) (pc := 58) hx hb dX7_findRows_58 rfl ?_
          refine c_Vv (pc := 62) (As := [.int (((cA (ho * 7 + j1)) &&& tg) &&& ((F_X7_knownIn x) ^^^ (-1 : Int32)))]) (rest := []) (wr := [(z0, .inr (7, [.ref zr, .int (nI zp), .int zd, .int zt, .int zm, .ref zc, .ref ze1, .ref ze2, .ref ze3, .ref ze4, .ref ze5, .ref ze6, .int zi0, .int zi1, .int zi2, .int zi3, .int zi4])), (zc, .inl (g.2.1 1, 175, .inl cA))]) X hW 2 ciX5 rfl (K_X5_append l g zr qs qo qm qh fS fO (F_X5_forget fS fM rc) fqh_1 (0 : Int32) j1 (((cA (ho * 7 + j1)) &&& tg) &&& ((F_X7_knownIn x) ^^^ (-1 : Int32))) (by omega)) vX7_139 [2, 3, 4, 5, 6] [0, 1] rfl rfl rfl rfl rfl rfl hl.1 rfl (Nat.le_of_ble_eq_true rfl) ⟨Nat.le_of_ble_eq_true rfl, Nat.le_of_ble_eq_true rfl⟩ ⟨Nat.le_of_ble_eq_true rfl, Nat.le_of_ble_eq_true rfl⟩ dX7_findRows_62 (fun u9 H locs hq hW => ?_)
          obtain rfl := hq
          have hW : WD g A s _ _ [(z0, .inr (7, [.ref zr, .int (nI zp), .int zd, .int zt, .int zm, .ref zc, .ref ze1, .ref ze2, .ref ze3, .ref ze4, .ref ze5, .ref ze6, .int zi0, .int zi1, .int zi2, .int zi3, .int zi4])), (zc, .inl (g.2.1 1, 175, .inl cA)), (zr, .inr (5, [.ref qs, .ref qo, .ref qm, .int (0 : Int32), .ref qh, .int (nI (j1 + 1))])), (qs, .inl (g.2.1 1, 128, .inl fS)), (qo, .inl (g.2.1 1, 128, .inl fO)), (qm, .inl (g.2.1 3, 128, .inl (F_X5_forget fS fM rc))), (qh, .inl (g.2.1 1, 7, .inl (F_X5_append fqh_1 j1 (((cA (ho * 7 + j1)) &&& tg) &&& ((F_X7_knownIn x) ^^^ (-1 : Int32))))))] := hW
          refine lv_iinc (v := nI (j1 + 1)) (lv' := [(5, .int (nI (j1 + 1))), (4, .int (F_X7_knownIn x)), (0, .ref z0), (1, .int x), (2, .int (nI ho)), (3, .int tg)]) (pc := 65) hx hb dX7_findRows_65 hl (k := 0) rfl (nI_add j1 1) (by decide) rfl (fun ls hl => ?_)
          refine lv_goto (tgt := 16) (pc := 68) hx hb dX7_findRows_68 rfl ?_
          exact ih1 (j1 + 1) (F_X5_append fqh_1 j1 (((cA (ho * 7 + j1)) &&& tg) &&& ((F_X7_knownIn x) ^^^ (-1 : Int32)))) (by omega) (by omega) (by rw [L1_X7_findRows, ← hst1]; exact (show L1_X7_findRowss cA x ho tg j1 fqh_1 = (F_X5_append fqh_1 j1 (((cA (ho * 7 + j1)) &&& tg) &&& ((F_X7_knownIn x) ^^^ (-1 : Int32)))) from by rw [L1_X7_findRowss, if_neg c6]).symm) _ _ _ hW (lv_sub hl [0, 1, 2, 3, 4, 5] rfl)
  exact loop1 (zp + 1) 0 fC (by omega) (by omega) rfl _ _ _ hW (lv_sub hl [0, 1, 2, 3, 4, 5] rfl)


set_option maxHeartbeats 4000000 in
set_option maxRecDepth 100000 in
theorem K_X7_swap (l : Launch) (g : GG) (z0 : Nat) (zr : Nat) (zc : Nat) (ze1 : Nat) (ze2 : Nat) (ze3 : Nat) (ze4 : Nat) (ze5 : Nat) (ze6 : Nat) (zp : Nat) (zd : Int32) (zt : Int32) (zm : Int32) (zi0 : Int32) (zi1 : Int32) (zi2 : Int32) (zi3 : Int32) (zi4 : Int32)  : MetV l g yX7_swap cX7_swap 2 none 0 0 0 [.ref z0] [(z0, .inr (7, [.ref zr, .int (nI zp), .int zd, .int zt, .int zm, .ref zc, .ref ze1, .ref ze2, .ref ze3, .ref ze4, .ref ze5, .ref ze6, .int zi0, .int zi1, .int zi2, .int zi3, .int zi4]))] (fun u => u = [(z0, .inr (7, [.ref zr, .int (nI zp), .int zd, .int zt, .int zm, .ref zc, .ref ze1, .ref ze2, .ref ze3, .ref ze4, .ref ze6, .ref ze5, .int zi1, .int 0, .int zi2, .int zi3, .int zi4]))]) := by
  refine MetV.of (own := RX7) rfl (by decide) (Nat.le_of_ble_eq_true rfl) ?_
  intro p e s m below meth c A ls args Q hQ X hr hin hW hl
  have hx := X.1
  have hb := X.2.1
  have hl : lv_has ls 2 [(0, .ref z0)] := hl
  refine lv_aload_n (pc := 0) hx hb dX7_swap_0 rfl (lv_at hl 0 rfl) ?_
  refine r_get X hW 0 ciX7 10 rfl (by decide) m_123 rfl rfl dX7_swap_1 ?_
  refine lv_astore_n (lv' := [(1, .ref ze5), (0, .ref z0)]) (pc := 4) hx hb dX7_swap_4 rfl hl (by decide) rfl (fun ls hl => ?_)
  refine lv_aload_n (pc := 5) hx hb dX7_swap_5 rfl (lv_at hl 1 rfl) ?_
  refine lv_aload_n (pc := 6) hx hb dX7_swap_6 rfl (lv_at hl 1 rfl) ?_
  refine r_get X hW 0 ciX7 11 rfl (by decide) m_124 rfl rfl dX7_swap_7 ?_
  refine r_put (ws' := [(z0, .inr (7, [.ref zr, .int (nI zp), .int zd, .int zt, .int zm, .ref zc, .ref ze1, .ref ze2, .ref ze3, .ref ze4, .ref ze6, .ref ze6, .int zi0, .int zi1, .int zi2, .int zi3, .int zi4]))]) X hW 0 ciX7 10 rfl (by decide) m_123 rfl rfl rfl rfl (Nat.le_of_ble_eq_true rfl) rfl dX7_swap_10 (fun H locs hW => ?_)
  refine lv_aload_n (pc := 13) hx hb dX7_swap_13 rfl (lv_at hl 1 rfl) ?_
  refine lv_aload_n (pc := 14) hx hb dX7_swap_14 rfl (lv_at hl 0 rfl) ?_
  refine r_put (ws' := [(z0, .inr (7, [.ref zr, .int (nI zp), .int zd, .int zt, .int zm, .ref zc, .ref ze1, .ref ze2, .ref ze3, .ref ze4, .ref ze6, .ref ze5, .int zi0, .int zi1, .int zi2, .int zi3, .int zi4]))]) X hW 0 ciX7 11 rfl (by decide) m_124 rfl rfl rfl rfl (Nat.le_of_ble_eq_true rfl) rfl dX7_swap_15 (fun H locs hW => ?_)
  refine lv_aload_n (pc := 18) hx hb dX7_swap_18 rfl (lv_at hl 1 rfl) ?_
  refine lv_aload_n (pc := 19) hx hb dX7_swap_19 rfl (lv_at hl 1 rfl) ?_
  refine r_get X hW 0 ciX7 13 rfl (by decide) m_126 rfl rfl dX7_swap_20 ?_
  refine r_put (ws' := [(z0, .inr (7, [.ref zr, .int (nI zp), .int zd, .int zt, .int zm, .ref zc, .ref ze1, .ref ze2, .ref ze3, .ref ze4, .ref ze6, .ref ze5, .int zi1, .int zi1, .int zi2, .int zi3, .int zi4]))]) X hW 0 ciX7 12 rfl (by decide) m_125 rfl rfl rfl rfl (Nat.le_of_ble_eq_true rfl) rfl dX7_swap_23 (fun H locs hW => ?_)
  refine lv_aload_n (pc := 26) hx hb dX7_swap_26 rfl (lv_at hl 1 rfl) ?_
  refine lv_iconst (v := 0) (pc := 27) hx hb dX7_swap_27 (by decide) ?_
  refine r_put (ws' := [(z0, .inr (7, [.ref zr, .int (nI zp), .int zd, .int zt, .int zm, .ref zc, .ref ze1, .ref ze2, .ref ze3, .ref ze4, .ref ze6, .ref ze5, .int zi1, .int 0, .int zi2, .int zi3, .int zi4]))]) X hW 0 ciX7 13 rfl (by decide) m_126 rfl rfl rfl rfl (Nat.le_of_ble_eq_true rfl) rfl dX7_swap_28 (fun H locs hW => ?_)
  exact e_v (u := [(z0, .inr (7, [.ref zr, .int (nI zp), .int zd, .int zt, .int zm, .ref zc, .ref ze1, .ref ze2, .ref ze3, .ref ze4, .ref ze6, .ref ze5, .int zi1, .int 0, .int zi2, .int zi3, .int zi4]))]) X hQ hr (hW) [0] rfl rfl (rfl) ⟨Nat.le_of_ble_eq_true rfl, Nat.le_of_ble_eq_true rfl⟩ dX7_swap_31

def F_X7_begin (pw : Nat → Int32) (nx : Nat → Int32) (x : Int32) (y : Int32) : (Nat → Int32) × (Nat → Int32) × Int32 := (((F_X7_arrive (0 : Int32) pw (fun _ => 0) nx (F_X7_state x y) (0 : Int32)).1), ((F_X7_arrive (0 : Int32) pw (fun _ => 0) nx (F_X7_state x y) (0 : Int32)).2.1), ((F_X7_arrive (0 : Int32) pw (fun _ => 0) nx (F_X7_state x y) (0 : Int32)).2.2))
set_option maxHeartbeats 4000000 in
set_option maxRecDepth 100000 in
theorem K_X7_begin (l : Launch) (g : GG) (z0 : Nat) (zr : Nat) (zc : Nat) (ze1 : Nat) (ze2 : Nat) (ze3 : Nat) (ze4 : Nat) (ze5 : Nat) (ze6 : Nat) (zp : Nat) (zd : Int32) (zt : Int32) (zm : Int32) (zi0 : Int32) (zi1 : Int32) (zi2 : Int32) (zi3 : Int32) (zi4 : Int32) (pw : Nat → Int32) (ct : Nat → Int32) (nx : Nat → Int32) (x : Int32) (y : Int32) (hpw : ∀ j : Nat, j < 128 → pw j = nI (tN (pw j)) ∧ tN (pw j) ≤ 1093) : MetV l g yX7_begin cX7_begin 3 none 3 0 0 [.ref z0, .int x, .int y] [(z0, .inr (7, [.ref zr, .int (nI zp), .int zd, .int zt, .int zm, .ref zc, .ref ze1, .ref ze2, .ref ze3, .ref ze4, .ref ze5, .ref ze6, .int zi0, .int zi1, .int zi2, .int zi3, .int zi4])), (ze1, .inl (g.2.1 1, 128, .inl pw)), (ze3, .inl (g.2.1 1, 2187, .inl ct)), (ze6, .inl (g.2.1 1, 2187, .inl nx))] (fun u => u = [(z0, .inr (7, [.ref zr, .int (nI zp), .int zd, .int zt, .int zm, .ref zc, .ref ze1, .ref ze2, .ref ze3, .ref ze4, .ref ze6, .ref ze5, .int ((F_X7_begin pw nx x y).2.2), .int 0, .int zi2, .int zi3, .int zi4])), (ze1, .inl (g.2.1 1, 128, .inl pw)), (ze3, .inl (g.2.1 1, 2187, .inl ((F_X7_begin pw nx x y).1))), (ze6, .inl (g.2.1 1, 2187, .inl ((F_X7_begin pw nx x y).2.1)))]) := by
  refine MetV.of (own := RX7) rfl (by decide) (Nat.le_of_ble_eq_true rfl) ?_
  intro p e s m below meth c A ls args Q hQ X hr hin hW hl
  have hx := X.1
  have hb := X.2.1
  have hl : lv_has ls 3 [(0, .ref z0), (1, .int x), (2, .int y)] := hl
  refine lv_aload_n (pc := 0) hx hb dX7_begin_0 rfl (lv_at hl 0 rfl) ?_
  refine r_get X hW 0 ciX7 8 rfl (by decide) m_121 rfl rfl dX7_begin_1 ?_
  refine lv_iconst (v := 0) (pc := 4) hx hb dX7_begin_4 (by decide) ?_
  refine c_Sv (pc := 5) (As := [.ref ze3, .int 0]) (rest := []) (wr := [(z0, .inr (7, [.ref zr, .int (nI zp), .int zd, .int zt, .int zm, .ref zc, .ref ze1, .ref ze2, .ref ze3, .ref ze4, .ref ze5, .ref ze6, .int zi0, .int zi1, .int zi2, .int zi3, .int zi4])), (ze1, .inl (g.2.1 1, 128, .inl pw)), (ze6, .inl (g.2.1 1, 2187, .inl nx))]) X hW (C_J7_fillE l g ze3 2187 ct 0 (by decide)) vX7_112 [2] [0, 1, 3] rfl rfl rfl rfl rfl rfl hl.1 rfl (Nat.le_of_ble_eq_true rfl) ⟨Nat.le_of_ble_eq_true rfl, Nat.le_of_ble_eq_true rfl⟩ ⟨Nat.le_of_ble_eq_true rfl, Nat.le_of_ble_eq_true rfl⟩ dX7_begin_5 (fun u9 H locs hq hW => ?_)
  obtain rfl := hq
  have hW : WD g A s _ _ [(z0, .inr (7, [.ref zr, .int (nI zp), .int zd, .int zt, .int zm, .ref zc, .ref ze1, .ref ze2, .ref ze3, .ref ze4, .ref ze5, .ref ze6, .int zi0, .int zi1, .int zi2, .int zi3, .int zi4])), (ze1, .inl (g.2.1 1, 128, .inl pw)), (ze6, .inl (g.2.1 1, 2187, .inl nx)), (ze3, .inl (g.2.1 1, 2187, .inl (fun _ => 0)))] := hW
  refine lv_aload_n (pc := 8) hx hb dX7_begin_8 rfl (lv_at hl 0 rfl) ?_
  refine lv_iconst (v := 0) (pc := 9) hx hb dX7_begin_9 (by decide) ?_
  refine r_put (ws' := [(z0, .inr (7, [.ref zr, .int (nI zp), .int zd, .int zt, .int zm, .ref zc, .ref ze1, .ref ze2, .ref ze3, .ref ze4, .ref ze5, .ref ze6, .int 0, .int zi1, .int zi2, .int zi3, .int zi4])), (ze1, .inl (g.2.1 1, 128, .inl pw)), (ze6, .inl (g.2.1 1, 2187, .inl nx)), (ze3, .inl (g.2.1 1, 2187, .inl (fun _ => 0)))]) X hW 0 ciX7 12 rfl (by decide) m_125 rfl rfl rfl rfl (Nat.le_of_ble_eq_true rfl) rfl dX7_begin_10 (fun H locs hW => ?_)
  refine lv_aload_n (pc := 13) hx hb dX7_begin_13 rfl (lv_at hl 0 rfl) ?_
  refine lv_iconst (v := 0) (pc := 14) hx hb dX7_begin_14 (by decide) ?_
  refine r_put (ws' := [(z0, .inr (7, [.ref zr, .int (nI zp), .int zd, .int zt, .int zm, .ref zc, .ref ze1, .ref ze2, .ref ze3, .ref ze4, .ref ze5, .ref ze6, .int 0, .int 0, .int zi2, .int zi3, .int zi4])), (ze1, .inl (g.2.1 1, 128, .inl pw)), (ze6, .inl (g.2.1 1, 2187, .inl nx)), (ze3, .inl (g.2.1 1, 2187, .inl (fun _ => 0)))]) X hW 0 ciX7 13 rfl (by decide) m_126 rfl rfl rfl rfl (Nat.le_of_ble_eq_true rfl) rfl dX7_begin_15 (fun H locs hW => ?_)
  refine lv_aload_n (pc := 18) hx hb dX7_begin_18 rfl (lv_at hl 0 rfl) ?_
  refine lv_iload_n (pc := 19) hx hb dX7_begin_19 rfl (lv_at hl 1 rfl) ?_
  refine lv_iload_n (pc := 20) hx hb dX7_begin_20 rfl (lv_at hl 2 rfl) ?_
  refine c_Si (pc := 21) (As := [.int x, .int y]) (rest := [.ref z0]) (wr := [(z0, .inr (7, [.ref zr, .int (nI zp), .int zd, .int zt, .int zm, .ref zc, .ref ze1, .ref ze2, .ref ze3, .ref ze4, .ref ze5, .ref ze6, .int 0, .int 0, .int zi2, .int zi3, .int zi4])), (ze1, .inl (g.2.1 1, 128, .inl pw)), (ze6, .inl (g.2.1 1, 2187, .inl nx)), (ze3, .inl (g.2.1 1, 2187, .inl (fun _ => 0)))]) X hW (K_X7_state l g x y) vX7_40 [] [0, 1, 2, 3] rfl rfl rfl rfl rfl rfl hl.1 rfl (Nat.le_of_ble_eq_true rfl) ⟨Nat.le_of_ble_eq_true rfl, Nat.le_of_ble_eq_true rfl⟩ ⟨Nat.le_of_ble_eq_true rfl, Nat.le_of_ble_eq_true rfl⟩ dX7_begin_21 (fun r1 u9 H locs hq hW => ?_)
  obtain ⟨rfl, rfl⟩ := hq
  have hW : WD g A s _ _ [(z0, .inr (7, [.ref zr, .int (nI zp), .int zd, .int zt, .int zm, .ref zc, .ref ze1, .ref ze2, .ref ze3, .ref ze4, .ref ze5, .ref ze6, .int 0, .int 0, .int zi2, .int zi3, .int zi4])), (ze1, .inl (g.2.1 1, 128, .inl pw)), (ze6, .inl (g.2.1 1, 2187, .inl nx)), (ze3, .inl (g.2.1 1, 2187, .inl (fun _ => 0)))] := hW
  refine lv_iconst (v := 0) (pc := 24) hx hb dX7_begin_24 (by decide) ?_
  refine c_Vv (pc := 25) (As := [.int (F_X7_state x y), .int 0]) (rest := []) (wr := []) X hW 0 ciX7 rfl (K_X7_arrive l g z0 zr zc ze1 ze2 ze3 ze4 ze5 ze6 zp zd zt zm (0 : Int32) (0 : Int32) zi2 zi3 zi4 pw (fun _ => 0) nx (F_X7_state x y) (0 : Int32) hpw NC_0) vX7_121 [0, 1, 3, 2] [] rfl rfl rfl rfl rfl rfl hl.1 rfl (Nat.le_of_ble_eq_true rfl) ⟨Nat.le_of_ble_eq_true rfl, Nat.le_of_ble_eq_true rfl⟩ ⟨Nat.le_of_ble_eq_true rfl, Nat.le_of_ble_eq_true rfl⟩ dX7_begin_25 (fun u9 H locs hq hW => ?_)
  obtain rfl := hq
  have hW : WD g A s _ _ [(z0, .inr (7, [.ref zr, .int (nI zp), .int zd, .int zt, .int zm, .ref zc, .ref ze1, .ref ze2, .ref ze3, .ref ze4, .ref ze5, .ref ze6, .int (0 : Int32), .int ((F_X7_arrive (0 : Int32) pw (fun _ => 0) nx (F_X7_state x y) (0 : Int32)).2.2), .int zi2, .int zi3, .int zi4])), (ze1, .inl (g.2.1 1, 128, .inl pw)), (ze3, .inl (g.2.1 1, 2187, .inl ((F_X7_arrive (0 : Int32) pw (fun _ => 0) nx (F_X7_state x y) (0 : Int32)).1))), (ze6, .inl (g.2.1 1, 2187, .inl ((F_X7_arrive (0 : Int32) pw (fun _ => 0) nx (F_X7_state x y) (0 : Int32)).2.1)))] := hW
  refine lv_aload_n (pc := 28) hx hb dX7_begin_28 rfl (lv_at hl 0 rfl) ?_
  refine c_Vv (pc := 29) (As := []) (rest := []) (wr := [(ze1, .inl (g.2.1 1, 128, .inl pw)), (ze3, .inl (g.2.1 1, 2187, .inl ((F_X7_arrive (0 : Int32) pw (fun _ => 0) nx (F_X7_state x y) (0 : Int32)).1))), (ze6, .inl (g.2.1 1, 2187, .inl ((F_X7_arrive (0 : Int32) pw (fun _ => 0) nx (F_X7_state x y) (0 : Int32)).2.1)))]) X hW 0 ciX7 rfl (K_X7_swap l g z0 zr zc ze1 ze2 ze3 ze4 ze5 ze6 zp zd zt zm (0 : Int32) ((F_X7_arrive (0 : Int32) pw (fun _ => 0) nx (F_X7_state x y) (0 : Int32)).2.2) zi2 zi3 zi4) vX7_105 [0] [1, 2, 3] rfl rfl rfl rfl rfl rfl hl.1 rfl (Nat.le_of_ble_eq_true rfl) ⟨Nat.le_of_ble_eq_true rfl, Nat.le_of_ble_eq_true rfl⟩ ⟨Nat.le_of_ble_eq_true rfl, Nat.le_of_ble_eq_true rfl⟩ dX7_begin_29 (fun u9 H locs hq hW => ?_)
  obtain rfl := hq
  have hW : WD g A s _ _ [(ze1, .inl (g.2.1 1, 128, .inl pw)), (ze3, .inl (g.2.1 1, 2187, .inl ((F_X7_arrive (0 : Int32) pw (fun _ => 0) nx (F_X7_state x y) (0 : Int32)).1))), (ze6, .inl (g.2.1 1, 2187, .inl ((F_X7_arrive (0 : Int32) pw (fun _ => 0) nx (F_X7_state x y) (0 : Int32)).2.1))), (z0, .inr (7, [.ref zr, .int (nI zp), .int zd, .int zt, .int zm, .ref zc, .ref ze1, .ref ze2, .ref ze3, .ref ze4, .ref ze6, .ref ze5, .int ((F_X7_arrive (0 : Int32) pw (fun _ => 0) nx (F_X7_state x y) (0 : Int32)).2.2), .int 0, .int zi2, .int zi3, .int zi4]))] := hW
  have hF : F_X7_begin pw nx x y = (((F_X7_arrive (0 : Int32) pw (fun _ => 0) nx (F_X7_state x y) (0 : Int32)).1), ((F_X7_arrive (0 : Int32) pw (fun _ => 0) nx (F_X7_state x y) (0 : Int32)).2.1), ((F_X7_arrive (0 : Int32) pw (fun _ => 0) nx (F_X7_state x y) (0 : Int32)).2.2)) := show F_X7_begin pw nx x y = (((F_X7_arrive (0 : Int32) pw (fun _ => 0) nx (F_X7_state x y) (0 : Int32)).1), ((F_X7_arrive (0 : Int32) pw (fun _ => 0) nx (F_X7_state x y) (0 : Int32)).2.1), ((F_X7_arrive (0 : Int32) pw (fun _ => 0) nx (F_X7_state x y) (0 : Int32)).2.2)) from rfl
  exact e_v (u := [(z0, .inr (7, [.ref zr, .int (nI zp), .int zd, .int zt, .int zm, .ref zc, .ref ze1, .ref ze2, .ref ze3, .ref ze4, .ref ze6, .ref ze5, .int ((F_X7_arrive (0 : Int32) pw (fun _ => 0) nx (F_X7_state x y) (0 : Int32)).2.2), .int 0, .int zi2, .int zi3, .int zi4])), (ze1, .inl (g.2.1 1, 128, .inl pw)), (ze3, .inl (g.2.1 1, 2187, .inl ((F_X7_arrive (0 : Int32) pw (fun _ => 0) nx (F_X7_state x y) (0 : Int32)).1))), (ze6, .inl (g.2.1 1, 2187, .inl ((F_X7_arrive (0 : Int32) pw (fun _ => 0) nx (F_X7_state x y) (0 : Int32)).2.1)))]) X hQ hr (hW) [3, 0, 1, 2] rfl rfl (by rw [hF]) ⟨Nat.le_of_ble_eq_true rfl, Nat.le_of_ble_eq_true rfl⟩ dX7_begin_32

def L1_X7_isDoneInOne (zm : Int32) (zi0 : Int32) (nw : Nat → Int32) : Nat → Nat → Int32
  | 0, _ => (0)
  | m_ + 1, j1 => if nI (tN zi0) ≤ nI j1 then ((0 : Int32)) else (if F_X7_isDone zm (F_X7_knownIn (nw j1)) = 0 then (L1_X7_isDoneInOne zm zi0 nw m_ (j1 + 1) ) else ((1 : Int32)))
def F_X7_isDoneInOne (zm : Int32) (zi0 : Int32) (nw : Nat → Int32) : Int32 := L1_X7_isDoneInOne zm zi0 nw ((tN zi0) + 1) 0 
set_option maxHeartbeats 4000000 in
set_option maxRecDepth 100000 in
theorem K_X7_isDoneInOne (l : Launch) (g : GG) (z0 : Nat) (zr : Nat) (zc : Nat) (ze1 : Nat) (ze2 : Nat) (ze3 : Nat) (ze4 : Nat) (ze5 : Nat) (ze6 : Nat) (zp : Nat) (zd : Int32) (zt : Int32) (zm : Int32) (zi0 : Int32) (zi1 : Int32) (zi2 : Int32) (zi3 : Int32) (zi4 : Int32) (nw : Nat → Int32) (hn0 : NC zi0) : MetI l g yX7_isDoneInOne cX7_isDoneInOne 2 (some .boolean) 1 0 0 [.ref z0] [(z0, .inr (7, [.ref zr, .int (nI zp), .int zd, .int zt, .int zm, .ref zc, .ref ze1, .ref ze2, .ref ze3, .ref ze4, .ref ze5, .ref ze6, .int zi0, .int zi1, .int zi2, .int zi3, .int zi4])), (ze5, .inl (g.2.1 1, 2187, .inl nw))] (fun r u => r = (F_X7_isDoneInOne zm zi0 nw) ∧ u = [(z0, .inr (7, [.ref zr, .int (nI zp), .int zd, .int zt, .int zm, .ref zc, .ref ze1, .ref ze2, .ref ze3, .ref ze4, .ref ze5, .ref ze6, .int zi0, .int zi1, .int zi2, .int zi3, .int zi4])), (ze5, .inl (g.2.1 1, 2187, .inl nw))]) := by
  refine MetI.of (own := RX7) rfl (by decide) (Nat.le_of_ble_eq_true rfl) ?_
  intro p e s m below meth c A ls args Q hQ X hr hin hW hl
  have hx := X.1
  have hb := X.2.1
  have hl : lv_has ls 2 [(0, .ref z0)] := hl
  have hn0b := hn0.2
  refine lv_iconst (v := 0) (pc := 0) hx hb dX7_isDoneInOne_0 (by decide) ?_
  refine lv_istore_n (lv' := [(1, .int 0), (0, .ref z0)]) (pc := 1) hx hb dX7_isDoneInOne_1 rfl hl (by decide) rfl (fun ls hl => ?_)
  have loop1 : ∀ (fu1 : Nat) (j1 : Nat), ((tN zi0) < fu1 + j1) → (j1 ≤ (tN zi0)) → (L1_X7_isDoneInOne zm zi0 nw fu1 j1 = F_X7_isDoneInOne zm zi0 nw) → ∀ (H : Heap) (locs : List Loc) (ls : Array Slot), WD g A s H locs [(z0, .inr (7, [.ref zr, .int (nI zp), .int zd, .int zt, .int zm, .ref zc, .ref ze1, .ref ze2, .ref ze3, .ref ze4, .ref ze5, .ref ze6, .int zi0, .int zi1, .int zi2, .int zi3, .int zi4])), (ze5, .inl (g.2.1 1, 2187, .inl nw))] → lv_has ls 2 [(1, .int (nI j1)), (0, .ref z0)] → W p l e (RM 1 0 0) s m args below meth c H locs 0 0 Q (F0 m 2 ls []) := by
    intro fu1
    induction fu1 with
    | zero =>
      intro j1 hm1 hj1 hst1
      exact absurd hm1 (by omega)
    | succ fu1 ih1 =>
      intro j1 hm1 hj1 hst1 H locs ls hW hl
      refine lv_iload_n (pc := 2) hx hb dX7_isDoneInOne_2 rfl (lv_at hl 0 rfl) ?_
      refine lv_aload_n (pc := 3) hx hb dX7_isDoneInOne_3 rfl (lv_at hl 1 rfl) ?_
      refine r_get X hW 0 ciX7 12 rfl (by decide) m_125 rfl rfl dX7_isDoneInOne_4 ?_
      rw [hn0.1]
      refine lv_icmp_ge (tgt := 34) (pc := 7) hx hb dX7_isDoneInOne_7 rfl (fun c1 => ?_) (fun c1 => ?_)
      · have h2 : (tN zi0) ≤ j1 := (nI_leI (a := (tN zi0)) (b := j1) (by omega) (by omega)).mp c1
        refine lv_iconst (v := 0) (pc := 34) hx hb dX7_isDoneInOne_34 (by decide) ?_
        have hF : F_X7_isDoneInOne zm zi0 nw = (0 : Int32) := hst1.symm.trans (show L1_X7_isDoneInOne zm zi0 nw (fu1 + 1) j1 = (0 : Int32) from by rw [L1_X7_isDoneInOne, if_pos c1])
        exact e_z (u := [(z0, .inr (7, [.ref zr, .int (nI zp), .int zd, .int zt, .int zm, .ref zc, .ref ze1, .ref ze2, .ref ze3, .ref ze4, .ref ze5, .ref ze6, .int zi0, .int zi1, .int zi2, .int zi3, .int zi4])), (ze5, .inl (g.2.1 1, 2187, .inl nw))]) X hQ hr (hW) rfl [0, 1] rfl rfl (⟨hF.symm, rfl⟩) ⟨Nat.le_of_ble_eq_true rfl, Nat.le_of_ble_eq_true rfl⟩ dX7_isDoneInOne_35
      · have h3 : ¬ ((tN zi0) ≤ j1) := fun q => c1 ((nI_leI (a := (tN zi0)) (b := j1) (by omega) (by omega)).mpr q)
        refine lv_aload_n (pc := 10) hx hb dX7_isDoneInOne_10 rfl (lv_at hl 1 rfl) ?_
        refine lv_aload_n (pc := 11) hx hb dX7_isDoneInOne_11 rfl (lv_at hl 1 rfl) ?_
        refine r_get X hW 0 ciX7 10 rfl (by decide) m_123 rfl rfl dX7_isDoneInOne_12 ?_
        refine lv_iload_n (pc := 15) hx hb dX7_isDoneInOne_15 rfl (lv_at hl 0 rfl) ?_
        refine r_iald X hW 1 rfl (vp_in_nI (by omega) (by decide)) dX7_isDoneInOne_16 ?_
        refine lv_topi (fun v4 ev4 => ?_)
        obtain rfl : v4 = nw j1 := ev4.trans (by rw [nI_clamp (by omega)])
        refine c_Si (pc := 17) (As := [.int (nw j1)]) (rest := [.ref z0]) (wr := [(z0, .inr (7, [.ref zr, .int (nI zp), .int zd, .int zt, .int zm, .ref zc, .ref ze1, .ref ze2, .ref ze3, .ref ze4, .ref ze5, .ref ze6, .int zi0, .int zi1, .int zi2, .int zi3, .int zi4])), (ze5, .inl (g.2.1 1, 2187, .inl nw))]) X hW (K_X7_knownIn l g (nw j1)) vX7_44 [] [0, 1] rfl rfl rfl rfl rfl rfl hl.1 rfl (Nat.le_of_ble_eq_true rfl) ⟨Nat.le_of_ble_eq_true rfl, Nat.le_of_ble_eq_true rfl⟩ ⟨Nat.le_of_ble_eq_true rfl, Nat.le_of_ble_eq_true rfl⟩ dX7_isDoneInOne_17 (fun r5 u9 H locs hq hW => ?_)
        obtain ⟨rfl, rfl⟩ := hq
        have hW : WD g A s _ _ [(z0, .inr (7, [.ref zr, .int (nI zp), .int zd, .int zt, .int zm, .ref zc, .ref ze1, .ref ze2, .ref ze3, .ref ze4, .ref ze5, .ref ze6, .int zi0, .int zi1, .int zi2, .int zi3, .int zi4])), (ze5, .inl (g.2.1 1, 2187, .inl nw))] := hW
        refine c_Vi (pc := 20) (As := [.int (F_X7_knownIn (nw j1))]) (rest := []) (wr := [(ze5, .inl (g.2.1 1, 2187, .inl nw))]) X hW 0 ciX7 rfl (K_X7_isDone l g z0 zr zc ze1 ze2 ze3 ze4 ze5 ze6 zp zd zt zm zi0 zi1 zi2 zi3 zi4 (F_X7_knownIn (nw j1))) vX7_87 [0] [1] rfl rfl rfl rfl rfl rfl hl.1 rfl (Nat.le_of_ble_eq_true rfl) ⟨Nat.le_of_ble_eq_true rfl, Nat.le_of_ble_eq_true rfl⟩ ⟨Nat.le_of_ble_eq_true rfl, Nat.le_of_ble_eq_true rfl⟩ dX7_isDoneInOne_20 (fun r6 u9 H locs hq hW => ?_)
        obtain ⟨rfl, rfl⟩ := hq
        have hW : WD g A s _ _ [(ze5, .inl (g.2.1 1, 2187, .inl nw)), (z0, .inr (7, [.ref zr, .int (nI zp), .int zd, .int zt, .int zm, .ref zc, .ref ze1, .ref ze2, .ref ze3, .ref ze4, .ref ze5, .ref ze6, .int zi0, .int zi1, .int zi2, .int zi3, .int zi4]))] := hW
        refine lv_if_eq (tgt := 28) (pc := 23) hx hb dX7_isDoneInOne_23 rfl (fun c7 => ?_) (fun c7 => ?_)
        · refine lv_iinc (v := nI (j1 + 1)) (lv' := [(1, .int (nI (j1 + 1))), (0, .ref z0)]) (pc := 28) hx hb dX7_isDoneInOne_28 hl (k := 0) rfl (nI_add j1 1) (by decide) rfl (fun ls hl => ?_)
          refine lv_goto (tgt := 2) (pc := 31) hx hb dX7_isDoneInOne_31 rfl ?_
          have hW : WD g A s _ _ [(z0, .inr (7, [.ref zr, .int (nI zp), .int zd, .int zt, .int zm, .ref zc, .ref ze1, .ref ze2, .ref ze3, .ref ze4, .ref ze5, .ref ze6, .int zi0, .int zi1, .int zi2, .int zi3, .int zi4])), (ze5, .inl (g.2.1 1, 2187, .inl nw))] := hW.pick [1, 0] rfl rfl
          exact ih1 (j1 + 1)  (by omega) (by omega) ((show L1_X7_isDoneInOne zm zi0 nw (fu1 + 1) j1 = L1_X7_isDoneInOne zm zi0 nw fu1 (j1 + 1)  from by rw [L1_X7_isDoneInOne, if_neg c1, if_pos c7]).symm.trans hst1) _ _ _ hW (lv_sub hl [0, 1] rfl)
        · refine lv_iconst (v := 1) (pc := 26) hx hb dX7_isDoneInOne_26 (by decide) ?_
          have hF : F_X7_isDoneInOne zm zi0 nw = (1 : Int32) := hst1.symm.trans (show L1_X7_isDoneInOne zm zi0 nw (fu1 + 1) j1 = (1 : Int32) from by rw [L1_X7_isDoneInOne, if_neg c1, if_neg c7])
          exact e_z (u := [(z0, .inr (7, [.ref zr, .int (nI zp), .int zd, .int zt, .int zm, .ref zc, .ref ze1, .ref ze2, .ref ze3, .ref ze4, .ref ze5, .ref ze6, .int zi0, .int zi1, .int zi2, .int zi3, .int zi4])), (ze5, .inl (g.2.1 1, 2187, .inl nw))]) X hQ hr (hW) rfl [1, 0] rfl rfl (⟨hF.symm, rfl⟩) ⟨Nat.le_of_ble_eq_true rfl, Nat.le_of_ble_eq_true rfl⟩ dX7_isDoneInOne_27
  exact loop1 ((tN zi0) + 1) 0  (by omega) (by omega) (show F_X7_isDoneInOne zm zi0 nw = L1_X7_isDoneInOne zm zi0 nw ((tN zi0) + 1) 0  from rfl).symm _ _ _ hW (lv_sub hl [0, 1] rfl)

def L1_X7_comeToBys (zp : Nat) (cA : Nat → Int32) (ho : Nat) (j1 : Nat) (x4_1 : Int32) : Int32 := F_X7_comeToAfter zp cA x4_1 (ho + j1)
def L1_X7_comeToBy (zp : Nat) (cA : Nat → Int32) (ho : Nat) (i0_ : Int32) : Nat → Int32
  | 0 => (i0_)
  | k_ + 1 => L1_X7_comeToBys zp cA ho k_ (L1_X7_comeToBy zp cA ho i0_ k_)
def F_X7_comeToBy (zp : Nat) (cA : Nat → Int32) (x : Int32) (ho : Nat) (la : Nat) : Int32 := (L1_X7_comeToBy zp cA ho x (la + 1 - ho))
set_option maxHeartbeats 4000000 in
set_option maxRecDepth 100000 in
theorem K_X7_comeToBy (l : Launch) (g : GG) (z0 : Nat) (zr : Nat) (zc : Nat) (ze1 : Nat) (ze2 : Nat) (ze3 : Nat) (ze4 : Nat) (ze5 : Nat) (ze6 : Nat) (zp : Nat) (zd : Int32) (zt : Int32) (zm : Int32) (zi0 : Int32) (zi1 : Int32) (zi2 : Int32) (zi3 : Int32) (zi4 : Int32) (cA : Nat → Int32) (x : Int32) (ho : Nat) (la : Nat) (hzp : zp ≤ 7) (hla : la ≤ 24) (hho : ho ≤ 24) : MetI l g yX7_comeToBy cX7_comeToBy 6 (some .int) 2 0 0 [.ref z0, .int x, .int (nI ho), .int (nI la)] [(z0, .inr (7, [.ref zr, .int (nI zp), .int zd, .int zt, .int zm, .ref zc, .ref ze1, .ref ze2, .ref ze3, .ref ze4, .ref ze5, .ref ze6, .int zi0, .int zi1, .int zi2, .int zi3, .int zi4])), (zc, .inl (g.2.1 1, 175, .inl cA))] (fun r u => r = (F_X7_comeToBy zp cA x ho la) ∧ u = [(z0, .inr (7, [.ref zr, .int (nI zp), .int zd, .int zt, .int zm, .ref zc, .ref ze1, .ref ze2, .ref ze3, .ref ze4, .ref ze5, .ref ze6, .int zi0, .int zi1, .int zi2, .int zi3, .int zi4])), (zc, .inl (g.2.1 1, 175, .inl cA))]) := by
  refine MetI.of (own := RX7) rfl (by decide) (Nat.le_of_ble_eq_true rfl) ?_
  intro p e s m below meth c A ls args Q hQ X hr hin hW hl
  have hx := X.1
  have hb := X.2.1
  have hl : lv_has ls 6 [(0, .ref z0), (1, .int x), (2, .int (nI ho)), (3, .int (nI la))] := hl
  refine lv_iload_n (pc := 0) hx hb dX7_comeToBy_0 rfl (lv_at hl 1 rfl) ?_
  refine lv_istore (lv' := [(4, .int x), (0, .ref z0), (1, .int x), (2, .int (nI ho)), (3, .int (nI la))]) (pc := 1) hx hb dX7_comeToBy_1 hl (by decide) rfl (fun ls hl => ?_)
  refine lv_iload_n (pc := 3) hx hb dX7_comeToBy_3 rfl (lv_at hl 3 rfl) ?_
  refine lv_istore (lv' := [(5, .int (nI ho)), (4, .int x), (0, .ref z0), (1, .int x), (2, .int (nI ho)), (3, .int (nI la))]) (pc := 4) hx hb dX7_comeToBy_4 hl (by decide) rfl (fun ls hl => ?_)
  have loop1 : ∀ (fu1 : Nat) (j1 : Nat) (x4_1 : Int32), ((la + 1 - ho) < fu1 + j1) → (j1 ≤ (la + 1 - ho)) → (x4_1 = L1_X7_comeToBy zp cA ho x j1) → ∀ (H : Heap) (locs : List Loc) (ls : Array Slot), WD g A s H locs [(z0, .inr (7, [.ref zr, .int (nI zp), .int zd, .int zt, .int zm, .ref zc, .ref ze1, .ref ze2, .ref ze3, .ref ze4, .ref ze5, .ref ze6, .int zi0, .int zi1, .int zi2, .int zi3, .int zi4])), (zc, .inl (g.2.1 1, 175, .inl cA))] → lv_has ls 6 [(5, .int (nI (ho + j1))), (4, .int x4_1), (0, .ref z0), (1, .int x), (2, .int (nI ho)), (3, .int (nI la))] → W p l e (RM 2 0 0) s m args below meth c H locs 0 0 Q (F0 m 6 ls []) := by
    intro fu1
    induction fu1 with
    | zero =>
      intro j1 x4_1 hm1 hj1 hst1
      exact absurd hm1 (by omega)
    | succ fu1 ih1 =>
      intro j1 x4_1 hm1 hj1 hst1 H locs ls hW hl
      refine lv_iload (pc := 6) hx hb dX7_comeToBy_6 (lv_at hl 0 rfl) ?_
      refine lv_iload_n (pc := 8) hx hb dX7_comeToBy_8 rfl (lv_at hl 5 rfl) ?_
      refine lv_icmp_gt (tgt := 28) (pc := 9) hx hb dX7_comeToBy_9 rfl (fun c1 => ?_) (fun c1 => ?_)
      · have h2 : la < (ho + j1) := (nI_ltI (a := la) (b := (ho + j1)) (by omega) (by omega)).mp c1
        have hN1 : j1 = (la + 1 - ho) := by omega
        rw [hN1] at hst1
        subst hst1
        have hW : WD g A s _ _ [(z0, .inr (7, [.ref zr, .int (nI zp), .int zd, .int zt, .int zm, .ref zc, .ref ze1, .ref ze2, .ref ze3, .ref ze4, .ref ze5, .ref ze6, .int zi0, .int zi1, .int zi2, .int zi3, .int zi4])), (zc, .inl (g.2.1 1, 175, .inl cA))] := hW
        refine lv_iload (pc := 28) hx hb dX7_comeToBy_28 (lv_at hl 1 rfl) ?_
        have hF : F_X7_comeToBy zp cA x ho la = (L1_X7_comeToBy zp cA ho x (la + 1 - ho)) := show F_X7_comeToBy zp cA x ho la = (L1_X7_comeToBy zp cA ho x (la + 1 - ho)) from rfl
        exact e_i (u := [(z0, .inr (7, [.ref zr, .int (nI zp), .int zd, .int zt, .int zm, .ref zc, .ref ze1, .ref ze2, .ref ze3, .ref ze4, .ref ze5, .ref ze6, .int zi0, .int zi1, .int zi2, .int zi3, .int zi4])), (zc, .inl (g.2.1 1, 175, .inl cA))]) X hQ hr (hW) [0, 1] rfl rfl (⟨hF.symm, rfl⟩) ⟨Nat.le_of_ble_eq_true rfl, Nat.le_of_ble_eq_true rfl⟩ dX7_comeToBy_30
      · have h3 : ¬ (la < (ho + j1)) := fun q => c1 ((nI_ltI (a := la) (b := (ho + j1)) (by omega) (by omega)).mpr q)
        refine lv_aload_n (pc := 12) hx hb dX7_comeToBy_12 rfl (lv_at hl 2 rfl) ?_
        refine lv_iload (pc := 13) hx hb dX7_comeToBy_13 (lv_at hl 1 rfl) ?_
        refine lv_iload (pc := 15) hx hb dX7_comeToBy_15 (lv_at hl 0 rfl) ?_
        refine c_Vi (pc := 17) (As := [.int x4_1, .int (nI (ho + j1))]) (rest := []) (wr := []) X hW 0 ciX7 rfl (K_X7_comeToAfter l g z0 zr zc ze1 ze2 ze3 ze4 ze5 ze6 zp zd zt zm zi0 zi1 zi2 zi3 zi4 cA x4_1 (ho + j1) hzp (by omega)) vX7_150 [0, 1] [] rfl rfl rfl rfl rfl rfl hl.1 rfl (Nat.le_of_ble_eq_true rfl) ⟨Nat.le_of_ble_eq_true rfl, Nat.le_of_ble_eq_true rfl⟩ ⟨Nat.le_of_ble_eq_true rfl, Nat.le_of_ble_eq_true rfl⟩ dX7_comeToBy_17 (fun r4 u9 H locs hq hW => ?_)
        obtain ⟨rfl, rfl⟩ := hq
        have hW : WD g A s _ _ [(z0, .inr (7, [.ref zr, .int (nI zp), .int zd, .int zt, .int zm, .ref zc, .ref ze1, .ref ze2, .ref ze3, .ref ze4, .ref ze5, .ref ze6, .int zi0, .int zi1, .int zi2, .int zi3, .int zi4])), (zc, .inl (g.2.1 1, 175, .inl cA))] := hW
        refine lv_istore (lv' := [(4, .int (F_X7_comeToAfter zp cA x4_1 (ho + j1))), (5, .int (nI (ho + j1))), (0, .ref z0), (1, .int x), (2, .int (nI ho)), (3, .int (nI la))]) (pc := 20) hx hb dX7_comeToBy_20 hl (by decide) rfl (fun ls hl => ?_)
        refine lv_iinc (v := nI (ho + j1 + 1)) (lv' := [(5, .int (nI (ho + j1 + 1))), (4, .int (F_X7_comeToAfter zp cA x4_1 (ho + j1))), (0, .ref z0), (1, .int x), (2, .int (nI ho)), (3, .int (nI la))]) (pc := 22) hx hb dX7_comeToBy_22 hl (k := 1) rfl (nI_add (ho + j1) 1) (by decide) rfl (fun ls hl => ?_)
        refine lv_goto (tgt := 6) (pc := 25) hx hb dX7_comeToBy_25 rfl ?_
        exact ih1 (j1 + 1) (F_X7_comeToAfter zp cA x4_1 (ho + j1)) (by omega) (by omega) (by rw [L1_X7_comeToBy, ← hst1]; exact (show L1_X7_comeToBys zp cA ho j1 x4_1 = F_X7_comeToAfter zp cA x4_1 (ho + j1) from rfl).symm) _ _ _ hW (lv_sub hl [0, 1, 2, 3, 4, 5] rfl)
  exact loop1 ((la + 1 - ho) + 1) 0 x (by omega) (by omega) rfl _ _ _ hW (lv_sub hl [0, 1, 2, 3, 4, 5] rfl)

theorem RI_rows {zp ho : Nat} {cA S O M C : Nat → Int32} {n x tg : Int32} (hzp : zp ≤ 7) (h : RI S M n) : RI (F_X7_findRows zp cA S O M C n x ho tg).1 (F_X7_findRows zp cA S O M C n x ho tg).2.2.1 (F_X7_findRows zp cA S O M C n x ho tg).2.2.2.2 := FA_RI hzp 8 0 _ _ _ _ _ _ _ s7_0 (RI_forget h)
theorem ab_NC {zd x hs fo : Int32} {pw S : Nat → Int32} : ∀ (k : Nat) (ct nx : Nat → Int32) (z : Int32), NC z → NC (L1_X7_arriveByAll zd pw S x hs fo ct nx z k).2.2
  | 0, _, _, _, h => h
  | k + 1, ct, nx, z, h => by
    have ih := ab_NC (zd := zd) (x := x) (hs := hs) (fo := fo) (pw := pw) (S := S) k ct nx z h
    have e : L1_X7_arriveByAll zd pw S x hs fo ct nx z (k + 1) = L1_X7_arriveByAlls zd pw S x hs fo k (L1_X7_arriveByAll zd pw S x hs fo ct nx z k).1 (L1_X7_arriveByAll zd pw S x hs fo ct nx z k).2.1 (L1_X7_arriveByAll zd pw S x hs fo ct nx z k).2.2 := rfl
    rw [e]
    generalize L1_X7_arriveByAll zd pw S x hs fo ct nx z k = s at ih ⊢
    unfold L1_X7_arriveByAlls
    split
    · exact ar_NC ih
    · exact ih
theorem abF_NC {zd zi1 rc x hs fo : Int32} {pw S ct nx : Nat → Int32} (h : NC zi1) : NC (F_X7_arriveByAll zd zi1 pw ct nx S rc x hs fo).2.2 := ab_NC (tN rc) ct nx zi1 h
theorem be_NC {pw nx : Nat → Int32} {x y : Int32} : NC (F_X7_begin pw nx x y).2.2 := by
  unfold F_X7_begin
  dsimp only
  exact ar_NC NC_0
def L2_X7_leastHourss (zp : Nat) (zd : Int32) (zt : Int32) (cA : Nat → Int32) (pw : Nat → Int32) (ho : Nat) (j1 : Nat) (fz0q10_1 : Nat → Int32) (j2 : Nat) (fze3_2 : Nat → Int32) (fz0q11_2 : Nat → Int32) (fqs_2 : Nat → Int32) (fqo_2 : Nat → Int32) (fqm_2 : Nat → Int32) (fqh_2 : Nat → Int32) (y13_2 : Int32) (y3_2 : Int32) (y5_2 : Int32) : (Nat → Int32) × (Nat → Int32) × (Nat → Int32) × (Nat → Int32) × (Nat → Int32) × (Nat → Int32) × Int32 × Int32 × Int32 := (((F_X7_arriveByAll zd y13_2 pw fze3_2 fz0q11_2 ((F_X7_findRows zp cA fqs_2 fqo_2 fqm_2 fqh_2 y3_2 (fz0q10_1 j2) (ho + j1) zt).1) ((F_X7_findRows zp cA fqs_2 fqo_2 fqm_2 fqh_2 y3_2 (fz0q10_1 j2) (ho + j1) zt).2.2.2.2) (fz0q10_1 j2) (nI (ho + j1 - ho + 1)) (0 : Int32)).1), ((F_X7_arriveByAll zd y13_2 pw fze3_2 fz0q11_2 ((F_X7_findRows zp cA fqs_2 fqo_2 fqm_2 fqh_2 y3_2 (fz0q10_1 j2) (ho + j1) zt).1) ((F_X7_findRows zp cA fqs_2 fqo_2 fqm_2 fqh_2 y3_2 (fz0q10_1 j2) (ho + j1) zt).2.2.2.2) (fz0q10_1 j2) (nI (ho + j1 - ho + 1)) (0 : Int32)).2.1), ((F_X7_findRows zp cA fqs_2 fqo_2 fqm_2 fqh_2 y3_2 (fz0q10_1 j2) (ho + j1) zt).1), ((F_X7_findRows zp cA fqs_2 fqo_2 fqm_2 fqh_2 y3_2 (fz0q10_1 j2) (ho + j1) zt).2.1), ((F_X7_findRows zp cA fqs_2 fqo_2 fqm_2 fqh_2 y3_2 (fz0q10_1 j2) (ho + j1) zt).2.2.1), ((F_X7_findRows zp cA fqs_2 fqo_2 fqm_2 fqh_2 y3_2 (fz0q10_1 j2) (ho + j1) zt).2.2.2.1), (F_X7_arriveByAll zd y13_2 pw fze3_2 fz0q11_2 ((F_X7_findRows zp cA fqs_2 fqo_2 fqm_2 fqh_2 y3_2 (fz0q10_1 j2) (ho + j1) zt).1) ((F_X7_findRows zp cA fqs_2 fqo_2 fqm_2 fqh_2 y3_2 (fz0q10_1 j2) (ho + j1) zt).2.2.2.2) (fz0q10_1 j2) (nI (ho + j1 - ho + 1)) (0 : Int32)).2.2, ((F_X7_findRows zp cA fqs_2 fqo_2 fqm_2 fqh_2 y3_2 (fz0q10_1 j2) (ho + j1) zt).2.2.2.2), (nI zp))
def L2_X7_leastHours (zp : Nat) (zd : Int32) (zt : Int32) (cA : Nat → Int32) (pw : Nat → Int32) (ho : Nat) (j1 : Nat) (fz0q10_1 : Nat → Int32) (i0_ : Nat → Int32) (i1_ : Nat → Int32) (i2_ : Nat → Int32) (i3_ : Nat → Int32) (i4_ : Nat → Int32) (i5_ : Nat → Int32) (i6_ : Int32) (i7_ : Int32) (i8_ : Int32) : Nat → (Nat → Int32) × (Nat → Int32) × (Nat → Int32) × (Nat → Int32) × (Nat → Int32) × (Nat → Int32) × Int32 × Int32 × Int32
  | 0 => (i0_, i1_, i2_, i3_, i4_, i5_, i6_, i7_, i8_)
  | k_ + 1 => L2_X7_leastHourss zp zd zt cA pw ho j1 fz0q10_1 k_ ((L2_X7_leastHours zp zd zt cA pw ho j1 fz0q10_1 i0_ i1_ i2_ i3_ i4_ i5_ i6_ i7_ i8_ k_).1) ((L2_X7_leastHours zp zd zt cA pw ho j1 fz0q10_1 i0_ i1_ i2_ i3_ i4_ i5_ i6_ i7_ i8_ k_).2.1) ((L2_X7_leastHours zp zd zt cA pw ho j1 fz0q10_1 i0_ i1_ i2_ i3_ i4_ i5_ i6_ i7_ i8_ k_).2.2.1) ((L2_X7_leastHours zp zd zt cA pw ho j1 fz0q10_1 i0_ i1_ i2_ i3_ i4_ i5_ i6_ i7_ i8_ k_).2.2.2.1) ((L2_X7_leastHours zp zd zt cA pw ho j1 fz0q10_1 i0_ i1_ i2_ i3_ i4_ i5_ i6_ i7_ i8_ k_).2.2.2.2.1) ((L2_X7_leastHours zp zd zt cA pw ho j1 fz0q10_1 i0_ i1_ i2_ i3_ i4_ i5_ i6_ i7_ i8_ k_).2.2.2.2.2.1) ((L2_X7_leastHours zp zd zt cA pw ho j1 fz0q10_1 i0_ i1_ i2_ i3_ i4_ i5_ i6_ i7_ i8_ k_).2.2.2.2.2.2.1) ((L2_X7_leastHours zp zd zt cA pw ho j1 fz0q10_1 i0_ i1_ i2_ i3_ i4_ i5_ i6_ i7_ i8_ k_).2.2.2.2.2.2.2.1) ((L2_X7_leastHours zp zd zt cA pw ho j1 fz0q10_1 i0_ i1_ i2_ i3_ i4_ i5_ i6_ i7_ i8_ k_).2.2.2.2.2.2.2.2)
def L1_X7_leastHours (zp : Nat) (zd : Int32) (zt : Int32) (zm : Int32) (cA : Nat → Int32) (pw : Nat → Int32) (ho : Nat) : Nat → Nat → (Nat → Int32) → (Nat → Int32) → (Nat → Int32) → (Nat → Int32) → (Nat → Int32) → (Nat → Int32) → (Nat → Int32) → Int32 → Int32 → Int32 → Nat → Nat → Int32 × Nat × Nat × (Nat → Int32) × (Nat → Int32) × (Nat → Int32) × Int32 × (Nat → Int32) × (Nat → Int32) × (Nat → Int32) × (Nat → Int32) × Int32 × Int32
  | 0, _, _, _, _, _, _, _, _, _, _, _, _, _ => (0, 0, 0, fun _ => 0, fun _ => 0, fun _ => 0, 0, fun _ => 0, fun _ => 0, fun _ => 0, fun _ => 0, 0, 0)
  | m_ + 1, j1, fze3_1, fz0q10_1, fz0q11_1, fqs_1, fqo_1, fqm_1, fqh_1, y12_1, y3_1, y5_1, p10_1, p11_1 => if 24 < nI (ho + j1) then (((-1 : Int32), p10_1, p11_1, fze3_1, fz0q10_1, fz0q11_1, y12_1, fqs_1, fqo_1, fqm_1, fqh_1, y3_1, y5_1)) else (if (F_X7_isDoneInOne zm ((L2_X7_leastHours zp zd zt cA pw ho j1 fz0q10_1 fze3_1 fz0q11_1 fqs_1 fqo_1 fqm_1 fqh_1 (0 : Int32) y3_1 y5_1 (tN y12_1)).2.2.2.2.2.2.1) ((L2_X7_leastHours zp zd zt cA pw ho j1 fz0q10_1 fze3_1 fz0q11_1 fqs_1 fqo_1 fqm_1 fqh_1 (0 : Int32) y3_1 y5_1 (tN y12_1)).2.1)) = 0 then (L1_X7_leastHours zp zd zt zm cA pw ho m_ (j1 + 1) ((L2_X7_leastHours zp zd zt cA pw ho j1 fz0q10_1 fze3_1 fz0q11_1 fqs_1 fqo_1 fqm_1 fqh_1 (0 : Int32) y3_1 y5_1 (tN y12_1)).1) ((L2_X7_leastHours zp zd zt cA pw ho j1 fz0q10_1 fze3_1 fz0q11_1 fqs_1 fqo_1 fqm_1 fqh_1 (0 : Int32) y3_1 y5_1 (tN y12_1)).2.1) fz0q10_1 ((L2_X7_leastHours zp zd zt cA pw ho j1 fz0q10_1 fze3_1 fz0q11_1 fqs_1 fqo_1 fqm_1 fqh_1 (0 : Int32) y3_1 y5_1 (tN y12_1)).2.2.1) ((L2_X7_leastHours zp zd zt cA pw ho j1 fz0q10_1 fze3_1 fz0q11_1 fqs_1 fqo_1 fqm_1 fqh_1 (0 : Int32) y3_1 y5_1 (tN y12_1)).2.2.2.1) ((L2_X7_leastHours zp zd zt cA pw ho j1 fz0q10_1 fze3_1 fz0q11_1 fqs_1 fqo_1 fqm_1 fqh_1 (0 : Int32) y3_1 y5_1 (tN y12_1)).2.2.2.2.1) ((L2_X7_leastHours zp zd zt cA pw ho j1 fz0q10_1 fze3_1 fz0q11_1 fqs_1 fqo_1 fqm_1 fqh_1 (0 : Int32) y3_1 y5_1 (tN y12_1)).2.2.2.2.2.1) ((L2_X7_leastHours zp zd zt cA pw ho j1 fz0q10_1 fze3_1 fz0q11_1 fqs_1 fqo_1 fqm_1 fqh_1 (0 : Int32) y3_1 y5_1 (tN y12_1)).2.2.2.2.2.2.1) ((L2_X7_leastHours zp zd zt cA pw ho j1 fz0q10_1 fze3_1 fz0q11_1 fqs_1 fqo_1 fqm_1 fqh_1 (0 : Int32) y3_1 y5_1 (tN y12_1)).2.2.2.2.2.2.2.1) ((L2_X7_leastHours zp zd zt cA pw ho j1 fz0q10_1 fze3_1 fz0q11_1 fqs_1 fqo_1 fqm_1 fqh_1 (0 : Int32) y3_1 y5_1 (tN y12_1)).2.2.2.2.2.2.2.2) p11_1 p10_1) else ((nI (ho + j1 - ho + 1), p11_1, p10_1, ((L2_X7_leastHours zp zd zt cA pw ho j1 fz0q10_1 fze3_1 fz0q11_1 fqs_1 fqo_1 fqm_1 fqh_1 (0 : Int32) y3_1 y5_1 (tN y12_1)).1), ((L2_X7_leastHours zp zd zt cA pw ho j1 fz0q10_1 fze3_1 fz0q11_1 fqs_1 fqo_1 fqm_1 fqh_1 (0 : Int32) y3_1 y5_1 (tN y12_1)).2.1), fz0q10_1, ((L2_X7_leastHours zp zd zt cA pw ho j1 fz0q10_1 fze3_1 fz0q11_1 fqs_1 fqo_1 fqm_1 fqh_1 (0 : Int32) y3_1 y5_1 (tN y12_1)).2.2.2.2.2.2.1), ((L2_X7_leastHours zp zd zt cA pw ho j1 fz0q10_1 fze3_1 fz0q11_1 fqs_1 fqo_1 fqm_1 fqh_1 (0 : Int32) y3_1 y5_1 (tN y12_1)).2.2.1), ((L2_X7_leastHours zp zd zt cA pw ho j1 fz0q10_1 fze3_1 fz0q11_1 fqs_1 fqo_1 fqm_1 fqh_1 (0 : Int32) y3_1 y5_1 (tN y12_1)).2.2.2.1), ((L2_X7_leastHours zp zd zt cA pw ho j1 fz0q10_1 fze3_1 fz0q11_1 fqs_1 fqo_1 fqm_1 fqh_1 (0 : Int32) y3_1 y5_1 (tN y12_1)).2.2.2.2.1), ((L2_X7_leastHours zp zd zt cA pw ho j1 fz0q10_1 fze3_1 fz0q11_1 fqs_1 fqo_1 fqm_1 fqh_1 (0 : Int32) y3_1 y5_1 (tN y12_1)).2.2.2.2.2.1), ((L2_X7_leastHours zp zd zt cA pw ho j1 fz0q10_1 fze3_1 fz0q11_1 fqs_1 fqo_1 fqm_1 fqh_1 (0 : Int32) y3_1 y5_1 (tN y12_1)).2.2.2.2.2.2.2.1), ((L2_X7_leastHours zp zd zt cA pw ho j1 fz0q10_1 fze3_1 fz0q11_1 fqs_1 fqo_1 fqm_1 fqh_1 (0 : Int32) y3_1 y5_1 (tN y12_1)).2.2.2.2.2.2.2.2))))
def F_X7_leastHours (ze5 : Nat) (ze6 : Nat) (zp : Nat) (zd : Int32) (zt : Int32) (zm : Int32) (cA : Nat → Int32) (pw : Nat → Int32) (nw : Nat → Int32) (nx : Nat → Int32) (fS : Nat → Int32) (fO : Nat → Int32) (fM : Nat → Int32) (fC : Nat → Int32) (rc : Int32) (rp : Int32) (x : Int32) (y : Int32) (ho : Nat) : Int32 × Nat × Nat × (Nat → Int32) × (Nat → Int32) × (Nat → Int32) × Int32 × (Nat → Int32) × (Nat → Int32) × (Nat → Int32) × (Nat → Int32) × Int32 × Int32 := if F_X7_isDone zm x = 0 then (if F_X7_isDone zm (F_X7_comeToBy zp cA x ho 24) = 0 then (((-1 : Int32), ze6, ze5, ((F_X7_begin pw nx x y).1), ((F_X7_begin pw nx x y).2.1), nw, ((F_X7_begin pw nx x y).2.2), fS, fO, fM, fC, rc, rp)) else (L1_X7_leastHours zp zd zt zm cA pw ho ((25 - ho) + 1) 0 ((F_X7_begin pw nx x y).1) ((F_X7_begin pw nx x y).2.1) nw fS fO fM fC ((F_X7_begin pw nx x y).2.2) rc rp ze6 ze5)) else (((0 : Int32), ze6, ze5, ((F_X7_begin pw nx x y).1), ((F_X7_begin pw nx x y).2.1), nw, ((F_X7_begin pw nx x y).2.2), fS, fO, fM, fC, rc, rp))
set_option maxHeartbeats 4000000 in
set_option maxRecDepth 100000 in
theorem K_X7_leastHours (l : Launch) (g : GG) (z0 : Nat) (zr : Nat) (zc : Nat) (ze1 : Nat) (ze2 : Nat) (ze3 : Nat) (ze4 : Nat) (ze5 : Nat) (ze6 : Nat) (zp : Nat) (zd : Int32) (zt : Int32) (zm : Int32) (zi0 : Int32) (zi1 : Int32) (zi2 : Int32) (zi3 : Int32) (zi4 : Int32) (cA : Nat → Int32) (pw : Nat → Int32) (ct : Nat → Int32) (nw : Nat → Int32) (nx : Nat → Int32) (qs : Nat) (qo : Nat) (qm : Nat) (qh : Nat) (fS : Nat → Int32) (fO : Nat → Int32) (fM : Nat → Int32) (fC : Nat → Int32) (rc : Int32) (rp : Int32) (x : Int32) (y : Int32) (ho : Nat) (hzp : zp ≤ 7) (hho : ho ≤ 24) (hpw : ∀ j : Nat, j < 128 → pw j = nI (tN (pw j)) ∧ tN (pw j) ≤ 1093) (hRI : RI fS fM rc) : MetI l g yX7_leastHours cX7_leastHours 7 (some .int) 12 0 0 [.ref z0, .int x, .int y, .int (nI ho)] [(z0, .inr (7, [.ref zr, .int (nI zp), .int zd, .int zt, .int zm, .ref zc, .ref ze1, .ref ze2, .ref ze3, .ref ze4, .ref ze5, .ref ze6, .int zi0, .int zi1, .int zi2, .int zi3, .int zi4])), (zc, .inl (g.2.1 1, 175, .inl cA)), (ze1, .inl (g.2.1 1, 128, .inl pw)), (ze3, .inl (g.2.1 1, 2187, .inl ct)), (ze5, .inl (g.2.1 1, 2187, .inl nw)), (ze6, .inl (g.2.1 1, 2187, .inl nx)), (zr, .inr (5, [.ref qs, .ref qo, .ref qm, .int rc, .ref qh, .int rp])), (qs, .inl (g.2.1 1, 128, .inl fS)), (qo, .inl (g.2.1 1, 128, .inl fO)), (qm, .inl (g.2.1 3, 128, .inl fM)), (qh, .inl (g.2.1 1, 7, .inl fC))] (fun r u => r = (F_X7_leastHours ze5 ze6 zp zd zt zm cA pw nw nx fS fO fM fC rc rp x y ho).1 ∧ u = [(z0, .inr (7, [.ref zr, .int (nI zp), .int zd, .int zt, .int zm, .ref zc, .ref ze1, .ref ze2, .ref ze3, .ref ze4, .ref ((F_X7_leastHours ze5 ze6 zp zd zt zm cA pw nw nx fS fO fM fC rc rp x y ho).2.1), .ref ((F_X7_leastHours ze5 ze6 zp zd zt zm cA pw nw nx fS fO fM fC rc rp x y ho).2.2.1), .int ((F_X7_leastHours ze5 ze6 zp zd zt zm cA pw nw nx fS fO fM fC rc rp x y ho).2.2.2.2.2.2.1), .int 0, .int zi2, .int zi3, .int zi4])), (zc, .inl (g.2.1 1, 175, .inl cA)), (ze1, .inl (g.2.1 1, 128, .inl pw)), (ze3, .inl (g.2.1 1, 2187, .inl ((F_X7_leastHours ze5 ze6 zp zd zt zm cA pw nw nx fS fO fM fC rc rp x y ho).2.2.2.1))), ((F_X7_leastHours ze5 ze6 zp zd zt zm cA pw nw nx fS fO fM fC rc rp x y ho).2.1, .inl (g.2.1 1, 2187, .inl ((F_X7_leastHours ze5 ze6 zp zd zt zm cA pw nw nx fS fO fM fC rc rp x y ho).2.2.2.2.1))), ((F_X7_leastHours ze5 ze6 zp zd zt zm cA pw nw nx fS fO fM fC rc rp x y ho).2.2.1, .inl (g.2.1 1, 2187, .inl ((F_X7_leastHours ze5 ze6 zp zd zt zm cA pw nw nx fS fO fM fC rc rp x y ho).2.2.2.2.2.1))), (zr, .inr (5, [.ref qs, .ref qo, .ref qm, .int ((F_X7_leastHours ze5 ze6 zp zd zt zm cA pw nw nx fS fO fM fC rc rp x y ho).2.2.2.2.2.2.2.2.2.2.2.1), .ref qh, .int ((F_X7_leastHours ze5 ze6 zp zd zt zm cA pw nw nx fS fO fM fC rc rp x y ho).2.2.2.2.2.2.2.2.2.2.2.2)])), (qs, .inl (g.2.1 1, 128, .inl ((F_X7_leastHours ze5 ze6 zp zd zt zm cA pw nw nx fS fO fM fC rc rp x y ho).2.2.2.2.2.2.2.1))), (qo, .inl (g.2.1 1, 128, .inl ((F_X7_leastHours ze5 ze6 zp zd zt zm cA pw nw nx fS fO fM fC rc rp x y ho).2.2.2.2.2.2.2.2.1))), (qm, .inl (g.2.1 3, 128, .inl ((F_X7_leastHours ze5 ze6 zp zd zt zm cA pw nw nx fS fO fM fC rc rp x y ho).2.2.2.2.2.2.2.2.2.1))), (qh, .inl (g.2.1 1, 7, .inl ((F_X7_leastHours ze5 ze6 zp zd zt zm cA pw nw nx fS fO fM fC rc rp x y ho).2.2.2.2.2.2.2.2.2.2.1)))]) := by
  refine MetI.of (own := RX7) rfl (by decide) (Nat.le_of_ble_eq_true rfl) ?_
  intro p e s m below meth c A ls args Q hQ X hr hin hW hl
  have hx := X.1
  have hb := X.2.1
  have hl : lv_has ls 7 [(0, .ref z0), (1, .int x), (2, .int y), (3, .int (nI ho))] := hl
  refine lv_aload_n (pc := 0) hx hb dX7_leastHours_0 rfl (lv_at hl 0 rfl) ?_
  refine lv_iload_n (pc := 1) hx hb dX7_leastHours_1 rfl (lv_at hl 1 rfl) ?_
  refine lv_iload_n (pc := 2) hx hb dX7_leastHours_2 rfl (lv_at hl 2 rfl) ?_
  refine c_Vv (pc := 3) (As := [.int x, .int y]) (rest := []) (wr := [(zc, .inl (g.2.1 1, 175, .inl cA)), (ze5, .inl (g.2.1 1, 2187, .inl nw)), (zr, .inr (5, [.ref qs, .ref qo, .ref qm, .int rc, .ref qh, .int rp])), (qs, .inl (g.2.1 1, 128, .inl fS)), (qo, .inl (g.2.1 1, 128, .inl fO)), (qm, .inl (g.2.1 3, 128, .inl fM)), (qh, .inl (g.2.1 1, 7, .inl fC))]) X hW 0 ciX7 rfl (K_X7_begin l g z0 zr zc ze1 ze2 ze3 ze4 ze5 ze6 zp zd zt zm zi0 zi1 zi2 zi3 zi4 pw ct nx x y hpw) vX7_83 [0, 2, 3, 5] [1, 4, 6, 7, 8, 9, 10] rfl rfl rfl rfl rfl rfl hl.1 rfl (Nat.le_of_ble_eq_true rfl) ⟨Nat.le_of_ble_eq_true rfl, Nat.le_of_ble_eq_true rfl⟩ ⟨Nat.le_of_ble_eq_true rfl, Nat.le_of_ble_eq_true rfl⟩ dX7_leastHours_3 (fun u9 H locs hq hW => ?_)
  obtain rfl := hq
  have hW : WD g A s _ _ [(zc, .inl (g.2.1 1, 175, .inl cA)), (ze5, .inl (g.2.1 1, 2187, .inl nw)), (zr, .inr (5, [.ref qs, .ref qo, .ref qm, .int rc, .ref qh, .int rp])), (qs, .inl (g.2.1 1, 128, .inl fS)), (qo, .inl (g.2.1 1, 128, .inl fO)), (qm, .inl (g.2.1 3, 128, .inl fM)), (qh, .inl (g.2.1 1, 7, .inl fC)), (z0, .inr (7, [.ref zr, .int (nI zp), .int zd, .int zt, .int zm, .ref zc, .ref ze1, .ref ze2, .ref ze3, .ref ze4, .ref ze6, .ref ze5, .int ((F_X7_begin pw nx x y).2.2), .int 0, .int zi2, .int zi3, .int zi4])), (ze1, .inl (g.2.1 1, 128, .inl pw)), (ze3, .inl (g.2.1 1, 2187, .inl ((F_X7_begin pw nx x y).1))), (ze6, .inl (g.2.1 1, 2187, .inl ((F_X7_begin pw nx x y).2.1)))] := hW
  refine lv_aload_n (pc := 6) hx hb dX7_leastHours_6 rfl (lv_at hl 0 rfl) ?_
  refine lv_iload_n (pc := 7) hx hb dX7_leastHours_7 rfl (lv_at hl 1 rfl) ?_
  refine c_Vi (pc := 8) (As := [.int x]) (rest := []) (wr := [(zc, .inl (g.2.1 1, 175, .inl cA)), (ze5, .inl (g.2.1 1, 2187, .inl nw)), (zr, .inr (5, [.ref qs, .ref qo, .ref qm, .int rc, .ref qh, .int rp])), (qs, .inl (g.2.1 1, 128, .inl fS)), (qo, .inl (g.2.1 1, 128, .inl fO)), (qm, .inl (g.2.1 3, 128, .inl fM)), (qh, .inl (g.2.1 1, 7, .inl fC)), (ze1, .inl (g.2.1 1, 128, .inl pw)), (ze3, .inl (g.2.1 1, 2187, .inl ((F_X7_begin pw nx x y).1))), (ze6, .inl (g.2.1 1, 2187, .inl ((F_X7_begin pw nx x y).2.1)))]) X hW 7 ciX7 rfl (K_X7_isDone l g z0 zr zc ze1 ze2 ze3 ze4 ze6 ze5 zp zd zt zm ((F_X7_begin pw nx x y).2.2) (0 : Int32) zi2 zi3 zi4 x) vX7_87 [7] [0, 1, 2, 3, 4, 5, 6, 8, 9, 10] rfl rfl rfl rfl rfl rfl hl.1 rfl (Nat.le_of_ble_eq_true rfl) ⟨Nat.le_of_ble_eq_true rfl, Nat.le_of_ble_eq_true rfl⟩ ⟨Nat.le_of_ble_eq_true rfl, Nat.le_of_ble_eq_true rfl⟩ dX7_leastHours_8 (fun r1 u9 H locs hq hW => ?_)
  obtain ⟨rfl, rfl⟩ := hq
  have hW : WD g A s _ _ [(zc, .inl (g.2.1 1, 175, .inl cA)), (ze5, .inl (g.2.1 1, 2187, .inl nw)), (zr, .inr (5, [.ref qs, .ref qo, .ref qm, .int rc, .ref qh, .int rp])), (qs, .inl (g.2.1 1, 128, .inl fS)), (qo, .inl (g.2.1 1, 128, .inl fO)), (qm, .inl (g.2.1 3, 128, .inl fM)), (qh, .inl (g.2.1 1, 7, .inl fC)), (ze1, .inl (g.2.1 1, 128, .inl pw)), (ze3, .inl (g.2.1 1, 2187, .inl ((F_X7_begin pw nx x y).1))), (ze6, .inl (g.2.1 1, 2187, .inl ((F_X7_begin pw nx x y).2.1))), (z0, .inr (7, [.ref zr, .int (nI zp), .int zd, .int zt, .int zm, .ref zc, .ref ze1, .ref ze2, .ref ze3, .ref ze4, .ref ze6, .ref ze5, .int ((F_X7_begin pw nx x y).2.2), .int (0 : Int32), .int zi2, .int zi3, .int zi4]))] := hW
  refine lv_if_eq (tgt := 16) (pc := 11) hx hb dX7_leastHours_11 rfl (fun c2 => ?_) (fun c2 => ?_)
  · refine lv_aload_n (pc := 16) hx hb dX7_leastHours_16 rfl (lv_at hl 0 rfl) ?_
    refine lv_aload_n (pc := 17) hx hb dX7_leastHours_17 rfl (lv_at hl 0 rfl) ?_
    refine lv_iload_n (pc := 18) hx hb dX7_leastHours_18 rfl (lv_at hl 1 rfl) ?_
    refine lv_iload_n (pc := 19) hx hb dX7_leastHours_19 rfl (lv_at hl 3 rfl) ?_
    refine lv_bipush (v := 24) (pc := 20) hx hb dX7_leastHours_20 (by decide) ?_
    refine c_Vi (pc := 22) (As := [.int x, .int (nI ho), .int 24]) (rest := [.ref z0]) (wr := [(ze5, .inl (g.2.1 1, 2187, .inl nw)), (zr, .inr (5, [.ref qs, .ref qo, .ref qm, .int rc, .ref qh, .int rp])), (qs, .inl (g.2.1 1, 128, .inl fS)), (qo, .inl (g.2.1 1, 128, .inl fO)), (qm, .inl (g.2.1 3, 128, .inl fM)), (qh, .inl (g.2.1 1, 7, .inl fC)), (ze1, .inl (g.2.1 1, 128, .inl pw)), (ze3, .inl (g.2.1 1, 2187, .inl ((F_X7_begin pw nx x y).1))), (ze6, .inl (g.2.1 1, 2187, .inl ((F_X7_begin pw nx x y).2.1)))]) X hW 10 ciX7 rfl (K_X7_comeToBy l g z0 zr zc ze1 ze2 ze3 ze4 ze6 ze5 zp zd zt zm ((F_X7_begin pw nx x y).2.2) (0 : Int32) zi2 zi3 zi4 cA x ho 24 hzp (by omega) hho) vX7_91 [10, 0] [1, 2, 3, 4, 5, 6, 7, 8, 9] rfl rfl rfl rfl rfl rfl hl.1 rfl (Nat.le_of_ble_eq_true rfl) ⟨Nat.le_of_ble_eq_true rfl, Nat.le_of_ble_eq_true rfl⟩ ⟨Nat.le_of_ble_eq_true rfl, Nat.le_of_ble_eq_true rfl⟩ dX7_leastHours_22 (fun r4 u9 H locs hq hW => ?_)
    obtain ⟨rfl, rfl⟩ := hq
    have hW : WD g A s _ _ [(ze5, .inl (g.2.1 1, 2187, .inl nw)), (zr, .inr (5, [.ref qs, .ref qo, .ref qm, .int rc, .ref qh, .int rp])), (qs, .inl (g.2.1 1, 128, .inl fS)), (qo, .inl (g.2.1 1, 128, .inl fO)), (qm, .inl (g.2.1 3, 128, .inl fM)), (qh, .inl (g.2.1 1, 7, .inl fC)), (ze1, .inl (g.2.1 1, 128, .inl pw)), (ze3, .inl (g.2.1 1, 2187, .inl ((F_X7_begin pw nx x y).1))), (ze6, .inl (g.2.1 1, 2187, .inl ((F_X7_begin pw nx x y).2.1))), (z0, .inr (7, [.ref zr, .int (nI zp), .int zd, .int zt, .int zm, .ref zc, .ref ze1, .ref ze2, .ref ze3, .ref ze4, .ref ze6, .ref ze5, .int ((F_X7_begin pw nx x y).2.2), .int (0 : Int32), .int zi2, .int zi3, .int zi4])), (zc, .inl (g.2.1 1, 175, .inl cA))] := hW
    refine c_Vi (pc := 25) (As := [.int (F_X7_comeToBy zp cA x ho 24)]) (rest := []) (wr := [(ze5, .inl (g.2.1 1, 2187, .inl nw)), (zr, .inr (5, [.ref qs, .ref qo, .ref qm, .int rc, .ref qh, .int rp])), (qs, .inl (g.2.1 1, 128, .inl fS)), (qo, .inl (g.2.1 1, 128, .inl fO)), (qm, .inl (g.2.1 3, 128, .inl fM)), (qh, .inl (g.2.1 1, 7, .inl fC)), (ze1, .inl (g.2.1 1, 128, .inl pw)), (ze3, .inl (g.2.1 1, 2187, .inl ((F_X7_begin pw nx x y).1))), (ze6, .inl (g.2.1 1, 2187, .inl ((F_X7_begin pw nx x y).2.1))), (zc, .inl (g.2.1 1, 175, .inl cA))]) X hW 9 ciX7 rfl (K_X7_isDone l g z0 zr zc ze1 ze2 ze3 ze4 ze6 ze5 zp zd zt zm ((F_X7_begin pw nx x y).2.2) (0 : Int32) zi2 zi3 zi4 (F_X7_comeToBy zp cA x ho 24)) vX7_87 [9] [0, 1, 2, 3, 4, 5, 6, 7, 8, 10] rfl rfl rfl rfl rfl rfl hl.1 rfl (Nat.le_of_ble_eq_true rfl) ⟨Nat.le_of_ble_eq_true rfl, Nat.le_of_ble_eq_true rfl⟩ ⟨Nat.le_of_ble_eq_true rfl, Nat.le_of_ble_eq_true rfl⟩ dX7_leastHours_25 (fun r5 u9 H locs hq hW => ?_)
    obtain ⟨rfl, rfl⟩ := hq
    have hW : WD g A s _ _ [(ze5, .inl (g.2.1 1, 2187, .inl nw)), (zr, .inr (5, [.ref qs, .ref qo, .ref qm, .int rc, .ref qh, .int rp])), (qs, .inl (g.2.1 1, 128, .inl fS)), (qo, .inl (g.2.1 1, 128, .inl fO)), (qm, .inl (g.2.1 3, 128, .inl fM)), (qh, .inl (g.2.1 1, 7, .inl fC)), (ze1, .inl (g.2.1 1, 128, .inl pw)), (ze3, .inl (g.2.1 1, 2187, .inl ((F_X7_begin pw nx x y).1))), (ze6, .inl (g.2.1 1, 2187, .inl ((F_X7_begin pw nx x y).2.1))), (zc, .inl (g.2.1 1, 175, .inl cA)), (z0, .inr (7, [.ref zr, .int (nI zp), .int zd, .int zt, .int zm, .ref zc, .ref ze1, .ref ze2, .ref ze3, .ref ze4, .ref ze6, .ref ze5, .int ((F_X7_begin pw nx x y).2.2), .int (0 : Int32), .int zi2, .int zi3, .int zi4]))] := hW
    refine lv_if_ne (tgt := 33) (pc := 28) hx hb dX7_leastHours_28 rfl (fun c6 => ?_) (fun c6 => ?_)
    · refine lv_iload_n (pc := 33) hx hb dX7_leastHours_33 rfl (lv_at hl 3 rfl) ?_
      refine lv_istore (lv' := [(4, .int (nI ho)), (0, .ref z0), (1, .int x), (2, .int y), (3, .int (nI ho))]) (pc := 34) hx hb dX7_leastHours_34 hl (by decide) rfl (fun ls hl => ?_)
      have loop1 : ∀ (fu1 : Nat) (j1 : Nat) (fze3_1 : Nat → Int32) (fz0q10_1 : Nat → Int32) (fz0q11_1 : Nat → Int32) (fqs_1 : Nat → Int32) (fqo_1 : Nat → Int32) (fqm_1 : Nat → Int32) (fqh_1 : Nat → Int32) (y12_1 : Int32) (y3_1 : Int32) (y5_1 : Int32) (p10_1 : Nat) (p11_1 : Nat), ((25 - ho) < fu1 + j1) → (j1 ≤ (25 - ho)) → (RI fqs_1 fqm_1 y3_1) → (NC y12_1) → (L1_X7_leastHours zp zd zt zm cA pw ho fu1 j1 fze3_1 fz0q10_1 fz0q11_1 fqs_1 fqo_1 fqm_1 fqh_1 y12_1 y3_1 y5_1 p10_1 p11_1 = F_X7_leastHours ze5 ze6 zp zd zt zm cA pw nw nx fS fO fM fC rc rp x y ho) → ∀ (H : Heap) (locs : List Loc) (ls : Array Slot), WD g A s H locs [(p11_1, .inl (g.2.1 1, 2187, .inl fz0q11_1)), (zr, .inr (5, [.ref qs, .ref qo, .ref qm, .int y3_1, .ref qh, .int y5_1])), (qs, .inl (g.2.1 1, 128, .inl fqs_1)), (qo, .inl (g.2.1 1, 128, .inl fqo_1)), (qm, .inl (g.2.1 3, 128, .inl fqm_1)), (qh, .inl (g.2.1 1, 7, .inl fqh_1)), (ze1, .inl (g.2.1 1, 128, .inl pw)), (ze3, .inl (g.2.1 1, 2187, .inl fze3_1)), (p10_1, .inl (g.2.1 1, 2187, .inl fz0q10_1)), (zc, .inl (g.2.1 1, 175, .inl cA)), (z0, .inr (7, [.ref zr, .int (nI zp), .int zd, .int zt, .int zm, .ref zc, .ref ze1, .ref ze2, .ref ze3, .ref ze4, .ref p10_1, .ref p11_1, .int y12_1, .int (0 : Int32), .int zi2, .int zi3, .int zi4]))] → lv_has ls 7 [(4, .int (nI (ho + j1))), (0, .ref z0), (1, .int x), (2, .int y), (3, .int (nI ho))] → W p l e (RM 12 0 0) s m args below meth c H locs 0 0 Q (F0 m 36 ls []) := by
        intro fu1
        induction fu1 with
        | zero =>
          intro j1 fze3_1 fz0q10_1 fz0q11_1 fqs_1 fqo_1 fqm_1 fqh_1 y12_1 y3_1 y5_1 p10_1 p11_1 hm1 hj1 hRI1 hn0_1 hst1
          exact absurd hm1 (by omega)
        | succ fu1 ih1 =>
          intro j1 fze3_1 fz0q10_1 fz0q11_1 fqs_1 fqo_1 fqm_1 fqh_1 y12_1 y3_1 y5_1 p10_1 p11_1 hm1 hj1 hRI1 hn0_1 hst1 H locs ls hW hl
          refine lv_iload (pc := 36) hx hb dX7_leastHours_36 (lv_at hl 0 rfl) ?_
          refine lv_bipush (v := 24) (pc := 38) hx hb dX7_leastHours_38 (by decide) ?_
          refine lv_icmp_gt (tgt := 120) (pc := 40) hx hb dX7_leastHours_40 rfl (fun c8 => ?_) (fun c8 => ?_)
          · have h9 : 24 < (ho + j1) := (nI_ltI (a := 24) (b := (ho + j1)) (by omega) (by omega)).mp c8
            refine lv_iconst (v := (-1)) (pc := 120) hx hb dX7_leastHours_120 (by decide) ?_
            have hF : F_X7_leastHours ze5 ze6 zp zd zt zm cA pw nw nx fS fO fM fC rc rp x y ho = ((-1 : Int32), p10_1, p11_1, fze3_1, fz0q10_1, fz0q11_1, y12_1, fqs_1, fqo_1, fqm_1, fqh_1, y3_1, y5_1) := hst1.symm.trans (show L1_X7_leastHours zp zd zt zm cA pw ho (fu1 + 1) j1 fze3_1 fz0q10_1 fz0q11_1 fqs_1 fqo_1 fqm_1 fqh_1 y12_1 y3_1 y5_1 p10_1 p11_1 = ((-1 : Int32), p10_1, p11_1, fze3_1, fz0q10_1, fz0q11_1, y12_1, fqs_1, fqo_1, fqm_1, fqh_1, y3_1, y5_1) from by rw [L1_X7_leastHours, if_pos c8])
            exact e_i (u := [(z0, .inr (7, [.ref zr, .int (nI zp), .int zd, .int zt, .int zm, .ref zc, .ref ze1, .ref ze2, .ref ze3, .ref ze4, .ref p10_1, .ref p11_1, .int y12_1, .int (0 : Int32), .int zi2, .int zi3, .int zi4])), (zc, .inl (g.2.1 1, 175, .inl cA)), (ze1, .inl (g.2.1 1, 128, .inl pw)), (ze3, .inl (g.2.1 1, 2187, .inl fze3_1)), (p10_1, .inl (g.2.1 1, 2187, .inl fz0q10_1)), (p11_1, .inl (g.2.1 1, 2187, .inl fz0q11_1)), (zr, .inr (5, [.ref qs, .ref qo, .ref qm, .int y3_1, .ref qh, .int y5_1])), (qs, .inl (g.2.1 1, 128, .inl fqs_1)), (qo, .inl (g.2.1 1, 128, .inl fqo_1)), (qm, .inl (g.2.1 3, 128, .inl fqm_1)), (qh, .inl (g.2.1 1, 7, .inl fqh_1))]) X hQ hr (hW) [10, 9, 6, 7, 8, 0, 1, 2, 3, 4, 5] rfl rfl (⟨(congrArg Prod.fst hF).symm, by rw [hF]⟩) ⟨Nat.le_of_ble_eq_true rfl, Nat.le_of_ble_eq_true rfl⟩ dX7_leastHours_121
          · have h10 : ¬ (24 < (ho + j1)) := fun q => c8 ((nI_ltI (a := 24) (b := (ho + j1)) (by omega) (by omega)).mpr q)
            refine lv_iload (pc := 43) hx hb dX7_leastHours_43 (lv_at hl 0 rfl) ?_
            refine lv_iload_n (pc := 45) hx hb dX7_leastHours_45 rfl (lv_at hl 4 rfl) ?_
            refine lv_isub (pc := 46) hx hb dX7_leastHours_46 ?_
            refine lv_topi (fun v11 ev11 => ?_)
            obtain rfl : v11 = nI (ho + j1 - ho) := ev11.trans (pk_sub (a := (ho + j1)) (b := ho) (by omega))
            refine lv_iconst (v := 1) (pc := 47) hx hb dX7_leastHours_47 (by decide) ?_
            refine lv_iadd (pc := 48) hx hb dX7_leastHours_48 ?_
            refine lv_topi (fun v12 ev12 => ?_)
            obtain rfl : v12 = nI (ho + j1 - ho + 1) := ev12.trans (nI_add (ho + j1 - ho) 1)
            refine lv_istore (lv' := [(5, .int (nI (ho + j1 - ho + 1))), (4, .int (nI (ho + j1))), (0, .ref z0), (1, .int x), (2, .int y), (3, .int (nI ho))]) (pc := 49) hx hb dX7_leastHours_49 hl (by decide) rfl (fun ls hl => ?_)
            refine lv_iconst (v := 0) (pc := 51) hx hb dX7_leastHours_51 (by decide) ?_
            refine lv_istore (lv' := [(6, .int 0), (5, .int (nI (ho + j1 - ho + 1))), (4, .int (nI (ho + j1))), (0, .ref z0), (1, .int x), (2, .int y), (3, .int (nI ho))]) (pc := 52) hx hb dX7_leastHours_52 hl (by decide) rfl (fun ls hl => ?_)
            have loop2 : ∀ (fu2 : Nat) (j2 : Nat) (fze3_2 : Nat → Int32) (fz0q11_2 : Nat → Int32) (fqs_2 : Nat → Int32) (fqo_2 : Nat → Int32) (fqm_2 : Nat → Int32) (fqh_2 : Nat → Int32) (y13_2 : Int32) (y3_2 : Int32) (y5_2 : Int32), ((tN y12_1) < fu2 + j2) → (j2 ≤ (tN y12_1)) → (RI fqs_2 fqm_2 y3_2) → (NC y13_2) → ((fze3_2, fz0q11_2, fqs_2, fqo_2, fqm_2, fqh_2, y13_2, y3_2, y5_2) = L2_X7_leastHours zp zd zt cA pw ho j1 fz0q10_1 fze3_1 fz0q11_1 fqs_1 fqo_1 fqm_1 fqh_1 (0 : Int32) y3_1 y5_1 j2) → ∀ (H : Heap) (locs : List Loc) (ls : Array Slot), WD g A s H locs [(p11_1, .inl (g.2.1 1, 2187, .inl fz0q11_2)), (zr, .inr (5, [.ref qs, .ref qo, .ref qm, .int y3_2, .ref qh, .int y5_2])), (qs, .inl (g.2.1 1, 128, .inl fqs_2)), (qo, .inl (g.2.1 1, 128, .inl fqo_2)), (qm, .inl (g.2.1 3, 128, .inl fqm_2)), (qh, .inl (g.2.1 1, 7, .inl fqh_2)), (ze1, .inl (g.2.1 1, 128, .inl pw)), (ze3, .inl (g.2.1 1, 2187, .inl fze3_2)), (p10_1, .inl (g.2.1 1, 2187, .inl fz0q10_1)), (zc, .inl (g.2.1 1, 175, .inl cA)), (z0, .inr (7, [.ref zr, .int (nI zp), .int zd, .int zt, .int zm, .ref zc, .ref ze1, .ref ze2, .ref ze3, .ref ze4, .ref p10_1, .ref p11_1, .int y12_1, .int y13_2, .int zi2, .int zi3, .int zi4]))] → lv_has ls 7 [(6, .int (nI j2)), (5, .int (nI (ho + j1 - ho + 1))), (4, .int (nI (ho + j1))), (0, .ref z0), (1, .int x), (2, .int y), (3, .int (nI ho))] → W p l e (RM 12 0 0) s m args below meth c H locs 0 0 Q (F0 m 54 ls []) := by
              intro fu2
              induction fu2 with
              | zero =>
                intro j2 fze3_2 fz0q11_2 fqs_2 fqo_2 fqm_2 fqh_2 y13_2 y3_2 y5_2 hm2 hj2 hRI2 hn1_2 hst2
                exact absurd hm2 (by omega)
              | succ fu2 ih2 =>
                intro j2 fze3_2 fz0q11_2 fqs_2 fqo_2 fqm_2 fqh_2 y13_2 y3_2 y5_2 hm2 hj2 hRI2 hn1_2 hst2 H locs ls hW hl
                refine lv_iload (pc := 54) hx hb dX7_leastHours_54 (lv_at hl 0 rfl) ?_
                refine lv_aload_n (pc := 56) hx hb dX7_leastHours_56 rfl (lv_at hl 3 rfl) ?_
                refine r_get X hW 10 ciX7 12 rfl (by decide) m_125 rfl rfl dX7_leastHours_57 ?_
                have hn0_9 := hn0_1.2
                rw [hn0_1.1]
                refine lv_icmp_ge (tgt := 100) (pc := 60) hx hb dX7_leastHours_60 rfl (fun c13 => ?_) (fun c13 => ?_)
                · have h14 : (tN y12_1) ≤ j2 := (nI_leI (a := (tN y12_1)) (b := j2) (by omega) (by omega)).mp c13
                  have hN2 : j2 = (tN y12_1) := by omega
                  rw [hN2] at hst2
                  have hs2_0 : (L2_X7_leastHours zp zd zt cA pw ho j1 fz0q10_1 fze3_1 fz0q11_1 fqs_1 fqo_1 fqm_1 fqh_1 (0 : Int32) y3_1 y5_1 (tN y12_1)).1 = fze3_2 := (congrArg (fun z => z.1) hst2).symm
                  have hs2_1 : (L2_X7_leastHours zp zd zt cA pw ho j1 fz0q10_1 fze3_1 fz0q11_1 fqs_1 fqo_1 fqm_1 fqh_1 (0 : Int32) y3_1 y5_1 (tN y12_1)).2.1 = fz0q11_2 := (congrArg (fun z => z.2.1) hst2).symm
                  have hs2_2 : (L2_X7_leastHours zp zd zt cA pw ho j1 fz0q10_1 fze3_1 fz0q11_1 fqs_1 fqo_1 fqm_1 fqh_1 (0 : Int32) y3_1 y5_1 (tN y12_1)).2.2.1 = fqs_2 := (congrArg (fun z => z.2.2.1) hst2).symm
                  have hs2_3 : (L2_X7_leastHours zp zd zt cA pw ho j1 fz0q10_1 fze3_1 fz0q11_1 fqs_1 fqo_1 fqm_1 fqh_1 (0 : Int32) y3_1 y5_1 (tN y12_1)).2.2.2.1 = fqo_2 := (congrArg (fun z => z.2.2.2.1) hst2).symm
                  have hs2_4 : (L2_X7_leastHours zp zd zt cA pw ho j1 fz0q10_1 fze3_1 fz0q11_1 fqs_1 fqo_1 fqm_1 fqh_1 (0 : Int32) y3_1 y5_1 (tN y12_1)).2.2.2.2.1 = fqm_2 := (congrArg (fun z => z.2.2.2.2.1) hst2).symm
                  have hs2_5 : (L2_X7_leastHours zp zd zt cA pw ho j1 fz0q10_1 fze3_1 fz0q11_1 fqs_1 fqo_1 fqm_1 fqh_1 (0 : Int32) y3_1 y5_1 (tN y12_1)).2.2.2.2.2.1 = fqh_2 := (congrArg (fun z => z.2.2.2.2.2.1) hst2).symm
                  have hs2_6 : (L2_X7_leastHours zp zd zt cA pw ho j1 fz0q10_1 fze3_1 fz0q11_1 fqs_1 fqo_1 fqm_1 fqh_1 (0 : Int32) y3_1 y5_1 (tN y12_1)).2.2.2.2.2.2.1 = y13_2 := (congrArg (fun z => z.2.2.2.2.2.2.1) hst2).symm
                  have hs2_7 : (L2_X7_leastHours zp zd zt cA pw ho j1 fz0q10_1 fze3_1 fz0q11_1 fqs_1 fqo_1 fqm_1 fqh_1 (0 : Int32) y3_1 y5_1 (tN y12_1)).2.2.2.2.2.2.2.1 = y3_2 := (congrArg (fun z => z.2.2.2.2.2.2.2.1) hst2).symm
                  have hs2_8 : (L2_X7_leastHours zp zd zt cA pw ho j1 fz0q10_1 fze3_1 fz0q11_1 fqs_1 fqo_1 fqm_1 fqh_1 (0 : Int32) y3_1 y5_1 (tN y12_1)).2.2.2.2.2.2.2.2 = y5_2 := (congrArg (fun z => z.2.2.2.2.2.2.2.2) hst2).symm
                  clear hst2
                  subst hs2_0
                  subst hs2_1
                  subst hs2_2
                  subst hs2_3
                  subst hs2_4
                  subst hs2_5
                  subst hs2_6
                  subst hs2_7
                  subst hs2_8
                  have hW : WD g A s _ _ [(p11_1, .inl (g.2.1 1, 2187, .inl ((L2_X7_leastHours zp zd zt cA pw ho j1 fz0q10_1 fze3_1 fz0q11_1 fqs_1 fqo_1 fqm_1 fqh_1 (0 : Int32) y3_1 y5_1 (tN y12_1)).2.1))), (zr, .inr (5, [.ref qs, .ref qo, .ref qm, .int ((L2_X7_leastHours zp zd zt cA pw ho j1 fz0q10_1 fze3_1 fz0q11_1 fqs_1 fqo_1 fqm_1 fqh_1 (0 : Int32) y3_1 y5_1 (tN y12_1)).2.2.2.2.2.2.2.1), .ref qh, .int ((L2_X7_leastHours zp zd zt cA pw ho j1 fz0q10_1 fze3_1 fz0q11_1 fqs_1 fqo_1 fqm_1 fqh_1 (0 : Int32) y3_1 y5_1 (tN y12_1)).2.2.2.2.2.2.2.2)])), (qs, .inl (g.2.1 1, 128, .inl ((L2_X7_leastHours zp zd zt cA pw ho j1 fz0q10_1 fze3_1 fz0q11_1 fqs_1 fqo_1 fqm_1 fqh_1 (0 : Int32) y3_1 y5_1 (tN y12_1)).2.2.1))), (qo, .inl (g.2.1 1, 128, .inl ((L2_X7_leastHours zp zd zt cA pw ho j1 fz0q10_1 fze3_1 fz0q11_1 fqs_1 fqo_1 fqm_1 fqh_1 (0 : Int32) y3_1 y5_1 (tN y12_1)).2.2.2.1))), (qm, .inl (g.2.1 3, 128, .inl ((L2_X7_leastHours zp zd zt cA pw ho j1 fz0q10_1 fze3_1 fz0q11_1 fqs_1 fqo_1 fqm_1 fqh_1 (0 : Int32) y3_1 y5_1 (tN y12_1)).2.2.2.2.1))), (qh, .inl (g.2.1 1, 7, .inl ((L2_X7_leastHours zp zd zt cA pw ho j1 fz0q10_1 fze3_1 fz0q11_1 fqs_1 fqo_1 fqm_1 fqh_1 (0 : Int32) y3_1 y5_1 (tN y12_1)).2.2.2.2.2.1))), (ze1, .inl (g.2.1 1, 128, .inl pw)), (ze3, .inl (g.2.1 1, 2187, .inl ((L2_X7_leastHours zp zd zt cA pw ho j1 fz0q10_1 fze3_1 fz0q11_1 fqs_1 fqo_1 fqm_1 fqh_1 (0 : Int32) y3_1 y5_1 (tN y12_1)).1))), (p10_1, .inl (g.2.1 1, 2187, .inl fz0q10_1)), (zc, .inl (g.2.1 1, 175, .inl cA)), (z0, .inr (7, [.ref zr, .int (nI zp), .int zd, .int zt, .int zm, .ref zc, .ref ze1, .ref ze2, .ref ze3, .ref ze4, .ref p10_1, .ref p11_1, .int y12_1, .int ((L2_X7_leastHours zp zd zt cA pw ho j1 fz0q10_1 fze3_1 fz0q11_1 fqs_1 fqo_1 fqm_1 fqh_1 (0 : Int32) y3_1 y5_1 (tN y12_1)).2.2.2.2.2.2.1), .int zi2, .int zi3, .int zi4]))] := hW
                  refine lv_aload_n (pc := 100) hx hb dX7_leastHours_100 rfl (lv_at hl 3 rfl) ?_
                  refine c_Vv (pc := 101) (As := []) (rest := []) (wr := [(p11_1, .inl (g.2.1 1, 2187, .inl ((L2_X7_leastHours zp zd zt cA pw ho j1 fz0q10_1 fze3_1 fz0q11_1 fqs_1 fqo_1 fqm_1 fqh_1 (0 : Int32) y3_1 y5_1 (tN y12_1)).2.1))), (zr, .inr (5, [.ref qs, .ref qo, .ref qm, .int ((L2_X7_leastHours zp zd zt cA pw ho j1 fz0q10_1 fze3_1 fz0q11_1 fqs_1 fqo_1 fqm_1 fqh_1 (0 : Int32) y3_1 y5_1 (tN y12_1)).2.2.2.2.2.2.2.1), .ref qh, .int ((L2_X7_leastHours zp zd zt cA pw ho j1 fz0q10_1 fze3_1 fz0q11_1 fqs_1 fqo_1 fqm_1 fqh_1 (0 : Int32) y3_1 y5_1 (tN y12_1)).2.2.2.2.2.2.2.2)])), (qs, .inl (g.2.1 1, 128, .inl ((L2_X7_leastHours zp zd zt cA pw ho j1 fz0q10_1 fze3_1 fz0q11_1 fqs_1 fqo_1 fqm_1 fqh_1 (0 : Int32) y3_1 y5_1 (tN y12_1)).2.2.1))), (qo, .inl (g.2.1 1, 128, .inl ((L2_X7_leastHours zp zd zt cA pw ho j1 fz0q10_1 fze3_1 fz0q11_1 fqs_1 fqo_1 fqm_1 fqh_1 (0 : Int32) y3_1 y5_1 (tN y12_1)).2.2.2.1))), (qm, .inl (g.2.1 3, 128, .inl ((L2_X7_leastHours zp zd zt cA pw ho j1 fz0q10_1 fze3_1 fz0q11_1 fqs_1 fqo_1 fqm_1 fqh_1 (0 : Int32) y3_1 y5_1 (tN y12_1)).2.2.2.2.1))), (qh, .inl (g.2.1 1, 7, .inl ((L2_X7_leastHours zp zd zt cA pw ho j1 fz0q10_1 fze3_1 fz0q11_1 fqs_1 fqo_1 fqm_1 fqh_1 (0 : Int32) y3_1 y5_1 (tN y12_1)).2.2.2.2.2.1))), (ze1, .inl (g.2.1 1, 128, .inl pw)), (ze3, .inl (g.2.1 1, 2187, .inl ((L2_X7_leastHours zp zd zt cA pw ho j1 fz0q10_1 fze3_1 fz0q11_1 fqs_1 fqo_1 fqm_1 fqh_1 (0 : Int32) y3_1 y5_1 (tN y12_1)).1))), (p10_1, .inl (g.2.1 1, 2187, .inl fz0q10_1)), (zc, .inl (g.2.1 1, 175, .inl cA))]) X hW 10 ciX7 rfl (K_X7_swap l g z0 zr zc ze1 ze2 ze3 ze4 p10_1 p11_1 zp zd zt zm y12_1 ((L2_X7_leastHours zp zd zt cA pw ho j1 fz0q10_1 fze3_1 fz0q11_1 fqs_1 fqo_1 fqm_1 fqh_1 (0 : Int32) y3_1 y5_1 (tN y12_1)).2.2.2.2.2.2.1) zi2 zi3 zi4) vX7_105 [10] [0, 1, 2, 3, 4, 5, 6, 7, 8, 9] rfl rfl rfl rfl rfl rfl hl.1 rfl (Nat.le_of_ble_eq_true rfl) ⟨Nat.le_of_ble_eq_true rfl, Nat.le_of_ble_eq_true rfl⟩ ⟨Nat.le_of_ble_eq_true rfl, Nat.le_of_ble_eq_true rfl⟩ dX7_leastHours_101 (fun u9 H locs hq hW => ?_)
                  obtain rfl := hq
                  have hW : WD g A s _ _ [(p11_1, .inl (g.2.1 1, 2187, .inl ((L2_X7_leastHours zp zd zt cA pw ho j1 fz0q10_1 fze3_1 fz0q11_1 fqs_1 fqo_1 fqm_1 fqh_1 (0 : Int32) y3_1 y5_1 (tN y12_1)).2.1))), (zr, .inr (5, [.ref qs, .ref qo, .ref qm, .int ((L2_X7_leastHours zp zd zt cA pw ho j1 fz0q10_1 fze3_1 fz0q11_1 fqs_1 fqo_1 fqm_1 fqh_1 (0 : Int32) y3_1 y5_1 (tN y12_1)).2.2.2.2.2.2.2.1), .ref qh, .int ((L2_X7_leastHours zp zd zt cA pw ho j1 fz0q10_1 fze3_1 fz0q11_1 fqs_1 fqo_1 fqm_1 fqh_1 (0 : Int32) y3_1 y5_1 (tN y12_1)).2.2.2.2.2.2.2.2)])), (qs, .inl (g.2.1 1, 128, .inl ((L2_X7_leastHours zp zd zt cA pw ho j1 fz0q10_1 fze3_1 fz0q11_1 fqs_1 fqo_1 fqm_1 fqh_1 (0 : Int32) y3_1 y5_1 (tN y12_1)).2.2.1))), (qo, .inl (g.2.1 1, 128, .inl ((L2_X7_leastHours zp zd zt cA pw ho j1 fz0q10_1 fze3_1 fz0q11_1 fqs_1 fqo_1 fqm_1 fqh_1 (0 : Int32) y3_1 y5_1 (tN y12_1)).2.2.2.1))), (qm, .inl (g.2.1 3, 128, .inl ((L2_X7_leastHours zp zd zt cA pw ho j1 fz0q10_1 fze3_1 fz0q11_1 fqs_1 fqo_1 fqm_1 fqh_1 (0 : Int32) y3_1 y5_1 (tN y12_1)).2.2.2.2.1))), (qh, .inl (g.2.1 1, 7, .inl ((L2_X7_leastHours zp zd zt cA pw ho j1 fz0q10_1 fze3_1 fz0q11_1 fqs_1 fqo_1 fqm_1 fqh_1 (0 : Int32) y3_1 y5_1 (tN y12_1)).2.2.2.2.2.1))), (ze1, .inl (g.2.1 1, 128, .inl pw)), (ze3, .inl (g.2.1 1, 2187, .inl ((L2_X7_leastHours zp zd zt cA pw ho j1 fz0q10_1 fze3_1 fz0q11_1 fqs_1 fqo_1 fqm_1 fqh_1 (0 : Int32) y3_1 y5_1 (tN y12_1)).1))), (p10_1, .inl (g.2.1 1, 2187, .inl fz0q10_1)), (zc, .inl (g.2.1 1, 175, .inl cA)), (z0, .inr (7, [.ref zr, .int (nI zp), .int zd, .int zt, .int zm, .ref zc, .ref ze1, .ref ze2, .ref ze3, .ref ze4, .ref p11_1, .ref p10_1, .int ((L2_X7_leastHours zp zd zt cA pw ho j1 fz0q10_1 fze3_1 fz0q11_1 fqs_1 fqo_1 fqm_1 fqh_1 (0 : Int32) y3_1 y5_1 (tN y12_1)).2.2.2.2.2.2.1), .int 0, .int zi2, .int zi3, .int zi4]))] := hW
                  refine lv_aload_n (pc := 104) hx hb dX7_leastHours_104 rfl (lv_at hl 3 rfl) ?_
                  refine c_Vi (pc := 105) (As := []) (rest := []) (wr := [(zr, .inr (5, [.ref qs, .ref qo, .ref qm, .int ((L2_X7_leastHours zp zd zt cA pw ho j1 fz0q10_1 fze3_1 fz0q11_1 fqs_1 fqo_1 fqm_1 fqh_1 (0 : Int32) y3_1 y5_1 (tN y12_1)).2.2.2.2.2.2.2.1), .ref qh, .int ((L2_X7_leastHours zp zd zt cA pw ho j1 fz0q10_1 fze3_1 fz0q11_1 fqs_1 fqo_1 fqm_1 fqh_1 (0 : Int32) y3_1 y5_1 (tN y12_1)).2.2.2.2.2.2.2.2)])), (qs, .inl (g.2.1 1, 128, .inl ((L2_X7_leastHours zp zd zt cA pw ho j1 fz0q10_1 fze3_1 fz0q11_1 fqs_1 fqo_1 fqm_1 fqh_1 (0 : Int32) y3_1 y5_1 (tN y12_1)).2.2.1))), (qo, .inl (g.2.1 1, 128, .inl ((L2_X7_leastHours zp zd zt cA pw ho j1 fz0q10_1 fze3_1 fz0q11_1 fqs_1 fqo_1 fqm_1 fqh_1 (0 : Int32) y3_1 y5_1 (tN y12_1)).2.2.2.1))), (qm, .inl (g.2.1 3, 128, .inl ((L2_X7_leastHours zp zd zt cA pw ho j1 fz0q10_1 fze3_1 fz0q11_1 fqs_1 fqo_1 fqm_1 fqh_1 (0 : Int32) y3_1 y5_1 (tN y12_1)).2.2.2.2.1))), (qh, .inl (g.2.1 1, 7, .inl ((L2_X7_leastHours zp zd zt cA pw ho j1 fz0q10_1 fze3_1 fz0q11_1 fqs_1 fqo_1 fqm_1 fqh_1 (0 : Int32) y3_1 y5_1 (tN y12_1)).2.2.2.2.2.1))), (ze1, .inl (g.2.1 1, 128, .inl pw)), (ze3, .inl (g.2.1 1, 2187, .inl ((L2_X7_leastHours zp zd zt cA pw ho j1 fz0q10_1 fze3_1 fz0q11_1 fqs_1 fqo_1 fqm_1 fqh_1 (0 : Int32) y3_1 y5_1 (tN y12_1)).1))), (p10_1, .inl (g.2.1 1, 2187, .inl fz0q10_1)), (zc, .inl (g.2.1 1, 175, .inl cA))]) X hW 10 ciX7 rfl (K_X7_isDoneInOne l g z0 zr zc ze1 ze2 ze3 ze4 p11_1 p10_1 zp zd zt zm ((L2_X7_leastHours zp zd zt cA pw ho j1 fz0q10_1 fze3_1 fz0q11_1 fqs_1 fqo_1 fqm_1 fqh_1 (0 : Int32) y3_1 y5_1 (tN y12_1)).2.2.2.2.2.2.1) (0 : Int32) zi2 zi3 zi4 ((L2_X7_leastHours zp zd zt cA pw ho j1 fz0q10_1 fze3_1 fz0q11_1 fqs_1 fqo_1 fqm_1 fqh_1 (0 : Int32) y3_1 y5_1 (tN y12_1)).2.1) hn1_2) vX7_108 [10, 0] [1, 2, 3, 4, 5, 6, 7, 8, 9] rfl rfl rfl rfl rfl rfl hl.1 rfl (Nat.le_of_ble_eq_true rfl) ⟨Nat.le_of_ble_eq_true rfl, Nat.le_of_ble_eq_true rfl⟩ ⟨Nat.le_of_ble_eq_true rfl, Nat.le_of_ble_eq_true rfl⟩ dX7_leastHours_105 (fun r15 u9 H locs hq hW => ?_)
                  obtain ⟨rfl, rfl⟩ := hq
                  have hW : WD g A s _ _ [(zr, .inr (5, [.ref qs, .ref qo, .ref qm, .int ((L2_X7_leastHours zp zd zt cA pw ho j1 fz0q10_1 fze3_1 fz0q11_1 fqs_1 fqo_1 fqm_1 fqh_1 (0 : Int32) y3_1 y5_1 (tN y12_1)).2.2.2.2.2.2.2.1), .ref qh, .int ((L2_X7_leastHours zp zd zt cA pw ho j1 fz0q10_1 fze3_1 fz0q11_1 fqs_1 fqo_1 fqm_1 fqh_1 (0 : Int32) y3_1 y5_1 (tN y12_1)).2.2.2.2.2.2.2.2)])), (qs, .inl (g.2.1 1, 128, .inl ((L2_X7_leastHours zp zd zt cA pw ho j1 fz0q10_1 fze3_1 fz0q11_1 fqs_1 fqo_1 fqm_1 fqh_1 (0 : Int32) y3_1 y5_1 (tN y12_1)).2.2.1))), (qo, .inl (g.2.1 1, 128, .inl ((L2_X7_leastHours zp zd zt cA pw ho j1 fz0q10_1 fze3_1 fz0q11_1 fqs_1 fqo_1 fqm_1 fqh_1 (0 : Int32) y3_1 y5_1 (tN y12_1)).2.2.2.1))), (qm, .inl (g.2.1 3, 128, .inl ((L2_X7_leastHours zp zd zt cA pw ho j1 fz0q10_1 fze3_1 fz0q11_1 fqs_1 fqo_1 fqm_1 fqh_1 (0 : Int32) y3_1 y5_1 (tN y12_1)).2.2.2.2.1))), (qh, .inl (g.2.1 1, 7, .inl ((L2_X7_leastHours zp zd zt cA pw ho j1 fz0q10_1 fze3_1 fz0q11_1 fqs_1 fqo_1 fqm_1 fqh_1 (0 : Int32) y3_1 y5_1 (tN y12_1)).2.2.2.2.2.1))), (ze1, .inl (g.2.1 1, 128, .inl pw)), (ze3, .inl (g.2.1 1, 2187, .inl ((L2_X7_leastHours zp zd zt cA pw ho j1 fz0q10_1 fze3_1 fz0q11_1 fqs_1 fqo_1 fqm_1 fqh_1 (0 : Int32) y3_1 y5_1 (tN y12_1)).1))), (p10_1, .inl (g.2.1 1, 2187, .inl fz0q10_1)), (zc, .inl (g.2.1 1, 175, .inl cA)), (z0, .inr (7, [.ref zr, .int (nI zp), .int zd, .int zt, .int zm, .ref zc, .ref ze1, .ref ze2, .ref ze3, .ref ze4, .ref p11_1, .ref p10_1, .int ((L2_X7_leastHours zp zd zt cA pw ho j1 fz0q10_1 fze3_1 fz0q11_1 fqs_1 fqo_1 fqm_1 fqh_1 (0 : Int32) y3_1 y5_1 (tN y12_1)).2.2.2.2.2.2.1), .int (0 : Int32), .int zi2, .int zi3, .int zi4])), (p11_1, .inl (g.2.1 1, 2187, .inl ((L2_X7_leastHours zp zd zt cA pw ho j1 fz0q10_1 fze3_1 fz0q11_1 fqs_1 fqo_1 fqm_1 fqh_1 (0 : Int32) y3_1 y5_1 (tN y12_1)).2.1)))] := hW
                  refine lv_if_eq (tgt := 114) (pc := 108) hx hb dX7_leastHours_108 rfl (fun c16 => ?_) (fun c16 => ?_)
                  · refine lv_iinc (v := nI (ho + j1 + 1)) (lv' := [(4, .int (nI (ho + j1 + 1))), (6, .int (nI j2)), (5, .int (nI (ho + j1 - ho + 1))), (0, .ref z0), (1, .int x), (2, .int y), (3, .int (nI ho))]) (pc := 114) hx hb dX7_leastHours_114 hl (k := 2) rfl (nI_add (ho + j1) 1) (by decide) rfl (fun ls hl => ?_)
                    refine lv_goto (tgt := 36) (pc := 117) hx hb dX7_leastHours_117 rfl ?_
                    have hW : WD g A s _ _ [(p10_1, .inl (g.2.1 1, 2187, .inl fz0q10_1)), (zr, .inr (5, [.ref qs, .ref qo, .ref qm, .int ((L2_X7_leastHours zp zd zt cA pw ho j1 fz0q10_1 fze3_1 fz0q11_1 fqs_1 fqo_1 fqm_1 fqh_1 (0 : Int32) y3_1 y5_1 (tN y12_1)).2.2.2.2.2.2.2.1), .ref qh, .int ((L2_X7_leastHours zp zd zt cA pw ho j1 fz0q10_1 fze3_1 fz0q11_1 fqs_1 fqo_1 fqm_1 fqh_1 (0 : Int32) y3_1 y5_1 (tN y12_1)).2.2.2.2.2.2.2.2)])), (qs, .inl (g.2.1 1, 128, .inl ((L2_X7_leastHours zp zd zt cA pw ho j1 fz0q10_1 fze3_1 fz0q11_1 fqs_1 fqo_1 fqm_1 fqh_1 (0 : Int32) y3_1 y5_1 (tN y12_1)).2.2.1))), (qo, .inl (g.2.1 1, 128, .inl ((L2_X7_leastHours zp zd zt cA pw ho j1 fz0q10_1 fze3_1 fz0q11_1 fqs_1 fqo_1 fqm_1 fqh_1 (0 : Int32) y3_1 y5_1 (tN y12_1)).2.2.2.1))), (qm, .inl (g.2.1 3, 128, .inl ((L2_X7_leastHours zp zd zt cA pw ho j1 fz0q10_1 fze3_1 fz0q11_1 fqs_1 fqo_1 fqm_1 fqh_1 (0 : Int32) y3_1 y5_1 (tN y12_1)).2.2.2.2.1))), (qh, .inl (g.2.1 1, 7, .inl ((L2_X7_leastHours zp zd zt cA pw ho j1 fz0q10_1 fze3_1 fz0q11_1 fqs_1 fqo_1 fqm_1 fqh_1 (0 : Int32) y3_1 y5_1 (tN y12_1)).2.2.2.2.2.1))), (ze1, .inl (g.2.1 1, 128, .inl pw)), (ze3, .inl (g.2.1 1, 2187, .inl ((L2_X7_leastHours zp zd zt cA pw ho j1 fz0q10_1 fze3_1 fz0q11_1 fqs_1 fqo_1 fqm_1 fqh_1 (0 : Int32) y3_1 y5_1 (tN y12_1)).1))), (p11_1, .inl (g.2.1 1, 2187, .inl ((L2_X7_leastHours zp zd zt cA pw ho j1 fz0q10_1 fze3_1 fz0q11_1 fqs_1 fqo_1 fqm_1 fqh_1 (0 : Int32) y3_1 y5_1 (tN y12_1)).2.1))), (zc, .inl (g.2.1 1, 175, .inl cA)), (z0, .inr (7, [.ref zr, .int (nI zp), .int zd, .int zt, .int zm, .ref zc, .ref ze1, .ref ze2, .ref ze3, .ref ze4, .ref p11_1, .ref p10_1, .int ((L2_X7_leastHours zp zd zt cA pw ho j1 fz0q10_1 fze3_1 fz0q11_1 fqs_1 fqo_1 fqm_1 fqh_1 (0 : Int32) y3_1 y5_1 (tN y12_1)).2.2.2.2.2.2.1), .int (0 : Int32), .int zi2, .int zi3, .int zi4]))] := hW.pick [7, 0, 1, 2, 3, 4, 5, 6, 10, 8, 9] rfl rfl
                    exact ih1 (j1 + 1) ((L2_X7_leastHours zp zd zt cA pw ho j1 fz0q10_1 fze3_1 fz0q11_1 fqs_1 fqo_1 fqm_1 fqh_1 (0 : Int32) y3_1 y5_1 (tN y12_1)).1) ((L2_X7_leastHours zp zd zt cA pw ho j1 fz0q10_1 fze3_1 fz0q11_1 fqs_1 fqo_1 fqm_1 fqh_1 (0 : Int32) y3_1 y5_1 (tN y12_1)).2.1) fz0q10_1 ((L2_X7_leastHours zp zd zt cA pw ho j1 fz0q10_1 fze3_1 fz0q11_1 fqs_1 fqo_1 fqm_1 fqh_1 (0 : Int32) y3_1 y5_1 (tN y12_1)).2.2.1) ((L2_X7_leastHours zp zd zt cA pw ho j1 fz0q10_1 fze3_1 fz0q11_1 fqs_1 fqo_1 fqm_1 fqh_1 (0 : Int32) y3_1 y5_1 (tN y12_1)).2.2.2.1) ((L2_X7_leastHours zp zd zt cA pw ho j1 fz0q10_1 fze3_1 fz0q11_1 fqs_1 fqo_1 fqm_1 fqh_1 (0 : Int32) y3_1 y5_1 (tN y12_1)).2.2.2.2.1) ((L2_X7_leastHours zp zd zt cA pw ho j1 fz0q10_1 fze3_1 fz0q11_1 fqs_1 fqo_1 fqm_1 fqh_1 (0 : Int32) y3_1 y5_1 (tN y12_1)).2.2.2.2.2.1) ((L2_X7_leastHours zp zd zt cA pw ho j1 fz0q10_1 fze3_1 fz0q11_1 fqs_1 fqo_1 fqm_1 fqh_1 (0 : Int32) y3_1 y5_1 (tN y12_1)).2.2.2.2.2.2.1) ((L2_X7_leastHours zp zd zt cA pw ho j1 fz0q10_1 fze3_1 fz0q11_1 fqs_1 fqo_1 fqm_1 fqh_1 (0 : Int32) y3_1 y5_1 (tN y12_1)).2.2.2.2.2.2.2.1) ((L2_X7_leastHours zp zd zt cA pw ho j1 fz0q10_1 fze3_1 fz0q11_1 fqs_1 fqo_1 fqm_1 fqh_1 (0 : Int32) y3_1 y5_1 (tN y12_1)).2.2.2.2.2.2.2.2) p11_1 p10_1 (by omega) (by omega) hRI2 hn1_2 ((show L1_X7_leastHours zp zd zt zm cA pw ho (fu1 + 1) j1 fze3_1 fz0q10_1 fz0q11_1 fqs_1 fqo_1 fqm_1 fqh_1 y12_1 y3_1 y5_1 p10_1 p11_1 = L1_X7_leastHours zp zd zt zm cA pw ho fu1 (j1 + 1) ((L2_X7_leastHours zp zd zt cA pw ho j1 fz0q10_1 fze3_1 fz0q11_1 fqs_1 fqo_1 fqm_1 fqh_1 (0 : Int32) y3_1 y5_1 (tN y12_1)).1) ((L2_X7_leastHours zp zd zt cA pw ho j1 fz0q10_1 fze3_1 fz0q11_1 fqs_1 fqo_1 fqm_1 fqh_1 (0 : Int32) y3_1 y5_1 (tN y12_1)).2.1) fz0q10_1 ((L2_X7_leastHours zp zd zt cA pw ho j1 fz0q10_1 fze3_1 fz0q11_1 fqs_1 fqo_1 fqm_1 fqh_1 (0 : Int32) y3_1 y5_1 (tN y12_1)).2.2.1) ((L2_X7_leastHours zp zd zt cA pw ho j1 fz0q10_1 fze3_1 fz0q11_1 fqs_1 fqo_1 fqm_1 fqh_1 (0 : Int32) y3_1 y5_1 (tN y12_1)).2.2.2.1) ((L2_X7_leastHours zp zd zt cA pw ho j1 fz0q10_1 fze3_1 fz0q11_1 fqs_1 fqo_1 fqm_1 fqh_1 (0 : Int32) y3_1 y5_1 (tN y12_1)).2.2.2.2.1) ((L2_X7_leastHours zp zd zt cA pw ho j1 fz0q10_1 fze3_1 fz0q11_1 fqs_1 fqo_1 fqm_1 fqh_1 (0 : Int32) y3_1 y5_1 (tN y12_1)).2.2.2.2.2.1) ((L2_X7_leastHours zp zd zt cA pw ho j1 fz0q10_1 fze3_1 fz0q11_1 fqs_1 fqo_1 fqm_1 fqh_1 (0 : Int32) y3_1 y5_1 (tN y12_1)).2.2.2.2.2.2.1) ((L2_X7_leastHours zp zd zt cA pw ho j1 fz0q10_1 fze3_1 fz0q11_1 fqs_1 fqo_1 fqm_1 fqh_1 (0 : Int32) y3_1 y5_1 (tN y12_1)).2.2.2.2.2.2.2.1) ((L2_X7_leastHours zp zd zt cA pw ho j1 fz0q10_1 fze3_1 fz0q11_1 fqs_1 fqo_1 fqm_1 fqh_1 (0 : Int32) y3_1 y5_1 (tN y12_1)).2.2.2.2.2.2.2.2) p11_1 p10_1 from by rw [L1_X7_leastHours, if_neg c8, if_pos c16]).symm.trans hst1) _ _ _ hW (lv_sub hl [0, 3, 4, 5, 6] rfl)
                  · refine lv_iload (pc := 111) hx hb dX7_leastHours_111 (lv_at hl 1 rfl) ?_
                    have hF : F_X7_leastHours ze5 ze6 zp zd zt zm cA pw nw nx fS fO fM fC rc rp x y ho = (nI (ho + j1 - ho + 1), p11_1, p10_1, ((L2_X7_leastHours zp zd zt cA pw ho j1 fz0q10_1 fze3_1 fz0q11_1 fqs_1 fqo_1 fqm_1 fqh_1 (0 : Int32) y3_1 y5_1 (tN y12_1)).1), ((L2_X7_leastHours zp zd zt cA pw ho j1 fz0q10_1 fze3_1 fz0q11_1 fqs_1 fqo_1 fqm_1 fqh_1 (0 : Int32) y3_1 y5_1 (tN y12_1)).2.1), fz0q10_1, ((L2_X7_leastHours zp zd zt cA pw ho j1 fz0q10_1 fze3_1 fz0q11_1 fqs_1 fqo_1 fqm_1 fqh_1 (0 : Int32) y3_1 y5_1 (tN y12_1)).2.2.2.2.2.2.1), ((L2_X7_leastHours zp zd zt cA pw ho j1 fz0q10_1 fze3_1 fz0q11_1 fqs_1 fqo_1 fqm_1 fqh_1 (0 : Int32) y3_1 y5_1 (tN y12_1)).2.2.1), ((L2_X7_leastHours zp zd zt cA pw ho j1 fz0q10_1 fze3_1 fz0q11_1 fqs_1 fqo_1 fqm_1 fqh_1 (0 : Int32) y3_1 y5_1 (tN y12_1)).2.2.2.1), ((L2_X7_leastHours zp zd zt cA pw ho j1 fz0q10_1 fze3_1 fz0q11_1 fqs_1 fqo_1 fqm_1 fqh_1 (0 : Int32) y3_1 y5_1 (tN y12_1)).2.2.2.2.1), ((L2_X7_leastHours zp zd zt cA pw ho j1 fz0q10_1 fze3_1 fz0q11_1 fqs_1 fqo_1 fqm_1 fqh_1 (0 : Int32) y3_1 y5_1 (tN y12_1)).2.2.2.2.2.1), ((L2_X7_leastHours zp zd zt cA pw ho j1 fz0q10_1 fze3_1 fz0q11_1 fqs_1 fqo_1 fqm_1 fqh_1 (0 : Int32) y3_1 y5_1 (tN y12_1)).2.2.2.2.2.2.2.1), ((L2_X7_leastHours zp zd zt cA pw ho j1 fz0q10_1 fze3_1 fz0q11_1 fqs_1 fqo_1 fqm_1 fqh_1 (0 : Int32) y3_1 y5_1 (tN y12_1)).2.2.2.2.2.2.2.2)) := hst1.symm.trans (show L1_X7_leastHours zp zd zt zm cA pw ho (fu1 + 1) j1 fze3_1 fz0q10_1 fz0q11_1 fqs_1 fqo_1 fqm_1 fqh_1 y12_1 y3_1 y5_1 p10_1 p11_1 = (nI (ho + j1 - ho + 1), p11_1, p10_1, ((L2_X7_leastHours zp zd zt cA pw ho j1 fz0q10_1 fze3_1 fz0q11_1 fqs_1 fqo_1 fqm_1 fqh_1 (0 : Int32) y3_1 y5_1 (tN y12_1)).1), ((L2_X7_leastHours zp zd zt cA pw ho j1 fz0q10_1 fze3_1 fz0q11_1 fqs_1 fqo_1 fqm_1 fqh_1 (0 : Int32) y3_1 y5_1 (tN y12_1)).2.1), fz0q10_1, ((L2_X7_leastHours zp zd zt cA pw ho j1 fz0q10_1 fze3_1 fz0q11_1 fqs_1 fqo_1 fqm_1 fqh_1 (0 : Int32) y3_1 y5_1 (tN y12_1)).2.2.2.2.2.2.1), ((L2_X7_leastHours zp zd zt cA pw ho j1 fz0q10_1 fze3_1 fz0q11_1 fqs_1 fqo_1 fqm_1 fqh_1 (0 : Int32) y3_1 y5_1 (tN y12_1)).2.2.1), ((L2_X7_leastHours zp zd zt cA pw ho j1 fz0q10_1 fze3_1 fz0q11_1 fqs_1 fqo_1 fqm_1 fqh_1 (0 : Int32) y3_1 y5_1 (tN y12_1)).2.2.2.1), ((L2_X7_leastHours zp zd zt cA pw ho j1 fz0q10_1 fze3_1 fz0q11_1 fqs_1 fqo_1 fqm_1 fqh_1 (0 : Int32) y3_1 y5_1 (tN y12_1)).2.2.2.2.1), ((L2_X7_leastHours zp zd zt cA pw ho j1 fz0q10_1 fze3_1 fz0q11_1 fqs_1 fqo_1 fqm_1 fqh_1 (0 : Int32) y3_1 y5_1 (tN y12_1)).2.2.2.2.2.1), ((L2_X7_leastHours zp zd zt cA pw ho j1 fz0q10_1 fze3_1 fz0q11_1 fqs_1 fqo_1 fqm_1 fqh_1 (0 : Int32) y3_1 y5_1 (tN y12_1)).2.2.2.2.2.2.2.1), ((L2_X7_leastHours zp zd zt cA pw ho j1 fz0q10_1 fze3_1 fz0q11_1 fqs_1 fqo_1 fqm_1 fqh_1 (0 : Int32) y3_1 y5_1 (tN y12_1)).2.2.2.2.2.2.2.2)) from by rw [L1_X7_leastHours, if_neg c8, if_neg c16])
                    exact e_i (u := [(z0, .inr (7, [.ref zr, .int (nI zp), .int zd, .int zt, .int zm, .ref zc, .ref ze1, .ref ze2, .ref ze3, .ref ze4, .ref p11_1, .ref p10_1, .int ((L2_X7_leastHours zp zd zt cA pw ho j1 fz0q10_1 fze3_1 fz0q11_1 fqs_1 fqo_1 fqm_1 fqh_1 (0 : Int32) y3_1 y5_1 (tN y12_1)).2.2.2.2.2.2.1), .int (0 : Int32), .int zi2, .int zi3, .int zi4])), (zc, .inl (g.2.1 1, 175, .inl cA)), (ze1, .inl (g.2.1 1, 128, .inl pw)), (ze3, .inl (g.2.1 1, 2187, .inl ((L2_X7_leastHours zp zd zt cA pw ho j1 fz0q10_1 fze3_1 fz0q11_1 fqs_1 fqo_1 fqm_1 fqh_1 (0 : Int32) y3_1 y5_1 (tN y12_1)).1))), (p11_1, .inl (g.2.1 1, 2187, .inl ((L2_X7_leastHours zp zd zt cA pw ho j1 fz0q10_1 fze3_1 fz0q11_1 fqs_1 fqo_1 fqm_1 fqh_1 (0 : Int32) y3_1 y5_1 (tN y12_1)).2.1))), (p10_1, .inl (g.2.1 1, 2187, .inl fz0q10_1)), (zr, .inr (5, [.ref qs, .ref qo, .ref qm, .int ((L2_X7_leastHours zp zd zt cA pw ho j1 fz0q10_1 fze3_1 fz0q11_1 fqs_1 fqo_1 fqm_1 fqh_1 (0 : Int32) y3_1 y5_1 (tN y12_1)).2.2.2.2.2.2.2.1), .ref qh, .int ((L2_X7_leastHours zp zd zt cA pw ho j1 fz0q10_1 fze3_1 fz0q11_1 fqs_1 fqo_1 fqm_1 fqh_1 (0 : Int32) y3_1 y5_1 (tN y12_1)).2.2.2.2.2.2.2.2)])), (qs, .inl (g.2.1 1, 128, .inl ((L2_X7_leastHours zp zd zt cA pw ho j1 fz0q10_1 fze3_1 fz0q11_1 fqs_1 fqo_1 fqm_1 fqh_1 (0 : Int32) y3_1 y5_1 (tN y12_1)).2.2.1))), (qo, .inl (g.2.1 1, 128, .inl ((L2_X7_leastHours zp zd zt cA pw ho j1 fz0q10_1 fze3_1 fz0q11_1 fqs_1 fqo_1 fqm_1 fqh_1 (0 : Int32) y3_1 y5_1 (tN y12_1)).2.2.2.1))), (qm, .inl (g.2.1 3, 128, .inl ((L2_X7_leastHours zp zd zt cA pw ho j1 fz0q10_1 fze3_1 fz0q11_1 fqs_1 fqo_1 fqm_1 fqh_1 (0 : Int32) y3_1 y5_1 (tN y12_1)).2.2.2.2.1))), (qh, .inl (g.2.1 1, 7, .inl ((L2_X7_leastHours zp zd zt cA pw ho j1 fz0q10_1 fze3_1 fz0q11_1 fqs_1 fqo_1 fqm_1 fqh_1 (0 : Int32) y3_1 y5_1 (tN y12_1)).2.2.2.2.2.1)))]) X hQ hr (hW) [9, 8, 5, 6, 10, 7, 0, 1, 2, 3, 4] rfl rfl (⟨(congrArg Prod.fst hF).symm, by rw [hF]⟩) ⟨Nat.le_of_ble_eq_true rfl, Nat.le_of_ble_eq_true rfl⟩ dX7_leastHours_113
                · have h19 : ¬ ((tN y12_1) ≤ j2) := fun q => c13 ((nI_leI (a := (tN y12_1)) (b := j2) (by omega) (by omega)).mpr q)
                  refine lv_aload_n (pc := 63) hx hb dX7_leastHours_63 rfl (lv_at hl 3 rfl) ?_
                  refine lv_aload_n (pc := 64) hx hb dX7_leastHours_64 rfl (lv_at hl 3 rfl) ?_
                  refine r_get X hW 10 ciX7 10 rfl (by decide) m_123 rfl rfl dX7_leastHours_65 ?_
                  refine lv_iload (pc := 68) hx hb dX7_leastHours_68 (lv_at hl 0 rfl) ?_
                  refine r_iald X hW 8 rfl (vp_in_nI (by omega) (by decide)) dX7_leastHours_70 ?_
                  refine lv_topi (fun v20 ev20 => ?_)
                  obtain rfl : v20 = fz0q10_1 j2 := ev20.trans (by rw [nI_clamp (by omega)])
                  refine lv_iload (pc := 71) hx hb dX7_leastHours_71 (lv_at hl 2 rfl) ?_
                  refine lv_aload_n (pc := 73) hx hb dX7_leastHours_73 rfl (lv_at hl 3 rfl) ?_
                  refine r_get X hW 10 ciX7 3 rfl (by decide) m_116 rfl rfl dX7_leastHours_74 ?_
                  have hRI3 := RI_rows (zp := zp) (cA := cA) (O := fqo_2) (C := fqh_2) (x := fz0q10_1 j2) (ho := (ho + j1)) (tg := zt) hzp hRI2
                  refine c_Vv (pc := 77) (As := [.int (fz0q10_1 j2), .int (nI (ho + j1)), .int zt]) (rest := []) (wr := [(p11_1, .inl (g.2.1 1, 2187, .inl fz0q11_2)), (ze1, .inl (g.2.1 1, 128, .inl pw)), (ze3, .inl (g.2.1 1, 2187, .inl fze3_2)), (p10_1, .inl (g.2.1 1, 2187, .inl fz0q10_1))]) X hW 10 ciX7 rfl (K_X7_findRows l g z0 zr zc ze1 ze2 ze3 ze4 p10_1 p11_1 zp zd zt zm y12_1 y13_2 zi2 zi3 zi4 cA qs qo qm qh fqs_2 fqo_2 fqm_2 fqh_2 y3_2 y5_2 (fz0q10_1 j2) (ho + j1) zt hzp (by omega) hRI2) vX7_98 [10, 9, 1, 2, 3, 4, 5] [0, 6, 7, 8] rfl rfl rfl rfl rfl rfl hl.1 rfl (Nat.le_of_ble_eq_true rfl) ⟨Nat.le_of_ble_eq_true rfl, Nat.le_of_ble_eq_true rfl⟩ ⟨Nat.le_of_ble_eq_true rfl, Nat.le_of_ble_eq_true rfl⟩ dX7_leastHours_77 (fun u9 H locs hq hW => ?_)
                  obtain rfl := hq
                  have hW : WD g A s _ _ [(p11_1, .inl (g.2.1 1, 2187, .inl fz0q11_2)), (ze1, .inl (g.2.1 1, 128, .inl pw)), (ze3, .inl (g.2.1 1, 2187, .inl fze3_2)), (p10_1, .inl (g.2.1 1, 2187, .inl fz0q10_1)), (z0, .inr (7, [.ref zr, .int (nI zp), .int zd, .int zt, .int zm, .ref zc, .ref ze1, .ref ze2, .ref ze3, .ref ze4, .ref p10_1, .ref p11_1, .int y12_1, .int y13_2, .int zi2, .int zi3, .int zi4])), (zc, .inl (g.2.1 1, 175, .inl cA)), (zr, .inr (5, [.ref qs, .ref qo, .ref qm, .int ((F_X7_findRows zp cA fqs_2 fqo_2 fqm_2 fqh_2 y3_2 (fz0q10_1 j2) (ho + j1) zt).2.2.2.2), .ref qh, .int (nI zp)])), (qs, .inl (g.2.1 1, 128, .inl ((F_X7_findRows zp cA fqs_2 fqo_2 fqm_2 fqh_2 y3_2 (fz0q10_1 j2) (ho + j1) zt).1))), (qo, .inl (g.2.1 1, 128, .inl ((F_X7_findRows zp cA fqs_2 fqo_2 fqm_2 fqh_2 y3_2 (fz0q10_1 j2) (ho + j1) zt).2.1))), (qm, .inl (g.2.1 3, 128, .inl ((F_X7_findRows zp cA fqs_2 fqo_2 fqm_2 fqh_2 y3_2 (fz0q10_1 j2) (ho + j1) zt).2.2.1))), (qh, .inl (g.2.1 1, 7, .inl ((F_X7_findRows zp cA fqs_2 fqo_2 fqm_2 fqh_2 y3_2 (fz0q10_1 j2) (ho + j1) zt).2.2.2.1)))] := hW
                  refine lv_aload_n (pc := 80) hx hb dX7_leastHours_80 rfl (lv_at hl 3 rfl) ?_
                  refine lv_aload_n (pc := 81) hx hb dX7_leastHours_81 rfl (lv_at hl 3 rfl) ?_
                  refine r_get X hW 4 ciX7 10 rfl (by decide) m_123 rfl rfl dX7_leastHours_82 ?_
                  refine lv_iload (pc := 85) hx hb dX7_leastHours_85 (lv_at hl 0 rfl) ?_
                  refine r_iald X hW 3 rfl (vp_in_nI (by omega) (by decide)) dX7_leastHours_87 ?_
                  refine lv_topi (fun v21 ev21 => ?_)
                  obtain rfl : v21 = fz0q10_1 j2 := ev21.trans (by rw [nI_clamp (by omega)])
                  refine lv_iload (pc := 88) hx hb dX7_leastHours_88 (lv_at hl 1 rfl) ?_
                  refine lv_iconst (v := 0) (pc := 90) hx hb dX7_leastHours_90 (by decide) ?_
                  refine c_Vv (pc := 91) (As := [.int (fz0q10_1 j2), .int (nI (ho + j1 - ho + 1)), .int 0]) (rest := []) (wr := [(p10_1, .inl (g.2.1 1, 2187, .inl fz0q10_1)), (zc, .inl (g.2.1 1, 175, .inl cA)), (qo, .inl (g.2.1 1, 128, .inl ((F_X7_findRows zp cA fqs_2 fqo_2 fqm_2 fqh_2 y3_2 (fz0q10_1 j2) (ho + j1) zt).2.1))), (qm, .inl (g.2.1 3, 128, .inl ((F_X7_findRows zp cA fqs_2 fqo_2 fqm_2 fqh_2 y3_2 (fz0q10_1 j2) (ho + j1) zt).2.2.1))), (qh, .inl (g.2.1 1, 7, .inl ((F_X7_findRows zp cA fqs_2 fqo_2 fqm_2 fqh_2 y3_2 (fz0q10_1 j2) (ho + j1) zt).2.2.2.1)))]) X hW 4 ciX7 rfl (K_X7_arriveByAll l g z0 zr zc ze1 ze2 ze3 ze4 p10_1 p11_1 zp zd zt zm y12_1 y13_2 zi2 zi3 zi4 pw fze3_2 fz0q11_2 qs qo qm qh ((F_X7_findRows zp cA fqs_2 fqo_2 fqm_2 fqh_2 y3_2 (fz0q10_1 j2) (ho + j1) zt).1) ((F_X7_findRows zp cA fqs_2 fqo_2 fqm_2 fqh_2 y3_2 (fz0q10_1 j2) (ho + j1) zt).2.2.1) ((F_X7_findRows zp cA fqs_2 fqo_2 fqm_2 fqh_2 y3_2 (fz0q10_1 j2) (ho + j1) zt).2.2.2.2) (nI zp) (fz0q10_1 j2) (nI (ho + j1 - ho + 1)) (0 : Int32) hpw hn1_2 hRI3) vX7_102 [4, 1, 2, 0, 6, 7] [3, 5, 8, 9, 10] rfl rfl rfl rfl rfl rfl hl.1 rfl (Nat.le_of_ble_eq_true rfl) ⟨Nat.le_of_ble_eq_true rfl, Nat.le_of_ble_eq_true rfl⟩ ⟨Nat.le_of_ble_eq_true rfl, Nat.le_of_ble_eq_true rfl⟩ dX7_leastHours_91 (fun u9 H locs hq hW => ?_)
                  obtain rfl := hq
                  have hW : WD g A s _ _ [(p10_1, .inl (g.2.1 1, 2187, .inl fz0q10_1)), (zc, .inl (g.2.1 1, 175, .inl cA)), (qo, .inl (g.2.1 1, 128, .inl ((F_X7_findRows zp cA fqs_2 fqo_2 fqm_2 fqh_2 y3_2 (fz0q10_1 j2) (ho + j1) zt).2.1))), (qm, .inl (g.2.1 3, 128, .inl ((F_X7_findRows zp cA fqs_2 fqo_2 fqm_2 fqh_2 y3_2 (fz0q10_1 j2) (ho + j1) zt).2.2.1))), (qh, .inl (g.2.1 1, 7, .inl ((F_X7_findRows zp cA fqs_2 fqo_2 fqm_2 fqh_2 y3_2 (fz0q10_1 j2) (ho + j1) zt).2.2.2.1))), (z0, .inr (7, [.ref zr, .int (nI zp), .int zd, .int zt, .int zm, .ref zc, .ref ze1, .ref ze2, .ref ze3, .ref ze4, .ref p10_1, .ref p11_1, .int y12_1, .int ((F_X7_arriveByAll zd y13_2 pw fze3_2 fz0q11_2 ((F_X7_findRows zp cA fqs_2 fqo_2 fqm_2 fqh_2 y3_2 (fz0q10_1 j2) (ho + j1) zt).1) ((F_X7_findRows zp cA fqs_2 fqo_2 fqm_2 fqh_2 y3_2 (fz0q10_1 j2) (ho + j1) zt).2.2.2.2) (fz0q10_1 j2) (nI (ho + j1 - ho + 1)) (0 : Int32)).2.2), .int zi2, .int zi3, .int zi4])), (ze1, .inl (g.2.1 1, 128, .inl pw)), (ze3, .inl (g.2.1 1, 2187, .inl ((F_X7_arriveByAll zd y13_2 pw fze3_2 fz0q11_2 ((F_X7_findRows zp cA fqs_2 fqo_2 fqm_2 fqh_2 y3_2 (fz0q10_1 j2) (ho + j1) zt).1) ((F_X7_findRows zp cA fqs_2 fqo_2 fqm_2 fqh_2 y3_2 (fz0q10_1 j2) (ho + j1) zt).2.2.2.2) (fz0q10_1 j2) (nI (ho + j1 - ho + 1)) (0 : Int32)).1))), (p11_1, .inl (g.2.1 1, 2187, .inl ((F_X7_arriveByAll zd y13_2 pw fze3_2 fz0q11_2 ((F_X7_findRows zp cA fqs_2 fqo_2 fqm_2 fqh_2 y3_2 (fz0q10_1 j2) (ho + j1) zt).1) ((F_X7_findRows zp cA fqs_2 fqo_2 fqm_2 fqh_2 y3_2 (fz0q10_1 j2) (ho + j1) zt).2.2.2.2) (fz0q10_1 j2) (nI (ho + j1 - ho + 1)) (0 : Int32)).2.1))), (zr, .inr (5, [.ref qs, .ref qo, .ref qm, .int ((F_X7_findRows zp cA fqs_2 fqo_2 fqm_2 fqh_2 y3_2 (fz0q10_1 j2) (ho + j1) zt).2.2.2.2), .ref qh, .int (nI zp)])), (qs, .inl (g.2.1 1, 128, .inl ((F_X7_findRows zp cA fqs_2 fqo_2 fqm_2 fqh_2 y3_2 (fz0q10_1 j2) (ho + j1) zt).1)))] := hW
                  refine lv_iinc (v := nI (j2 + 1)) (lv' := [(6, .int (nI (j2 + 1))), (5, .int (nI (ho + j1 - ho + 1))), (4, .int (nI (ho + j1))), (0, .ref z0), (1, .int x), (2, .int y), (3, .int (nI ho))]) (pc := 94) hx hb dX7_leastHours_94 hl (k := 0) rfl (nI_add j2 1) (by decide) rfl (fun ls hl => ?_)
                  refine lv_goto (tgt := 54) (pc := 97) hx hb dX7_leastHours_97 rfl ?_
                  have hW : WD g A s _ _ [(p11_1, .inl (g.2.1 1, 2187, .inl ((F_X7_arriveByAll zd y13_2 pw fze3_2 fz0q11_2 ((F_X7_findRows zp cA fqs_2 fqo_2 fqm_2 fqh_2 y3_2 (fz0q10_1 j2) (ho + j1) zt).1) ((F_X7_findRows zp cA fqs_2 fqo_2 fqm_2 fqh_2 y3_2 (fz0q10_1 j2) (ho + j1) zt).2.2.2.2) (fz0q10_1 j2) (nI (ho + j1 - ho + 1)) (0 : Int32)).2.1))), (zr, .inr (5, [.ref qs, .ref qo, .ref qm, .int ((F_X7_findRows zp cA fqs_2 fqo_2 fqm_2 fqh_2 y3_2 (fz0q10_1 j2) (ho + j1) zt).2.2.2.2), .ref qh, .int (nI zp)])), (qs, .inl (g.2.1 1, 128, .inl ((F_X7_findRows zp cA fqs_2 fqo_2 fqm_2 fqh_2 y3_2 (fz0q10_1 j2) (ho + j1) zt).1))), (qo, .inl (g.2.1 1, 128, .inl ((F_X7_findRows zp cA fqs_2 fqo_2 fqm_2 fqh_2 y3_2 (fz0q10_1 j2) (ho + j1) zt).2.1))), (qm, .inl (g.2.1 3, 128, .inl ((F_X7_findRows zp cA fqs_2 fqo_2 fqm_2 fqh_2 y3_2 (fz0q10_1 j2) (ho + j1) zt).2.2.1))), (qh, .inl (g.2.1 1, 7, .inl ((F_X7_findRows zp cA fqs_2 fqo_2 fqm_2 fqh_2 y3_2 (fz0q10_1 j2) (ho + j1) zt).2.2.2.1))), (ze1, .inl (g.2.1 1, 128, .inl pw)), (ze3, .inl (g.2.1 1, 2187, .inl ((F_X7_arriveByAll zd y13_2 pw fze3_2 fz0q11_2 ((F_X7_findRows zp cA fqs_2 fqo_2 fqm_2 fqh_2 y3_2 (fz0q10_1 j2) (ho + j1) zt).1) ((F_X7_findRows zp cA fqs_2 fqo_2 fqm_2 fqh_2 y3_2 (fz0q10_1 j2) (ho + j1) zt).2.2.2.2) (fz0q10_1 j2) (nI (ho + j1 - ho + 1)) (0 : Int32)).1))), (p10_1, .inl (g.2.1 1, 2187, .inl fz0q10_1)), (zc, .inl (g.2.1 1, 175, .inl cA)), (z0, .inr (7, [.ref zr, .int (nI zp), .int zd, .int zt, .int zm, .ref zc, .ref ze1, .ref ze2, .ref ze3, .ref ze4, .ref p10_1, .ref p11_1, .int y12_1, .int ((F_X7_arriveByAll zd y13_2 pw fze3_2 fz0q11_2 ((F_X7_findRows zp cA fqs_2 fqo_2 fqm_2 fqh_2 y3_2 (fz0q10_1 j2) (ho + j1) zt).1) ((F_X7_findRows zp cA fqs_2 fqo_2 fqm_2 fqh_2 y3_2 (fz0q10_1 j2) (ho + j1) zt).2.2.2.2) (fz0q10_1 j2) (nI (ho + j1 - ho + 1)) (0 : Int32)).2.2), .int zi2, .int zi3, .int zi4]))] := hW.pick [8, 9, 10, 2, 3, 4, 6, 7, 0, 1, 5] rfl rfl
                  exact ih2 (j2 + 1) ((F_X7_arriveByAll zd y13_2 pw fze3_2 fz0q11_2 ((F_X7_findRows zp cA fqs_2 fqo_2 fqm_2 fqh_2 y3_2 (fz0q10_1 j2) (ho + j1) zt).1) ((F_X7_findRows zp cA fqs_2 fqo_2 fqm_2 fqh_2 y3_2 (fz0q10_1 j2) (ho + j1) zt).2.2.2.2) (fz0q10_1 j2) (nI (ho + j1 - ho + 1)) (0 : Int32)).1) ((F_X7_arriveByAll zd y13_2 pw fze3_2 fz0q11_2 ((F_X7_findRows zp cA fqs_2 fqo_2 fqm_2 fqh_2 y3_2 (fz0q10_1 j2) (ho + j1) zt).1) ((F_X7_findRows zp cA fqs_2 fqo_2 fqm_2 fqh_2 y3_2 (fz0q10_1 j2) (ho + j1) zt).2.2.2.2) (fz0q10_1 j2) (nI (ho + j1 - ho + 1)) (0 : Int32)).2.1) ((F_X7_findRows zp cA fqs_2 fqo_2 fqm_2 fqh_2 y3_2 (fz0q10_1 j2) (ho + j1) zt).1) ((F_X7_findRows zp cA fqs_2 fqo_2 fqm_2 fqh_2 y3_2 (fz0q10_1 j2) (ho + j1) zt).2.1) ((F_X7_findRows zp cA fqs_2 fqo_2 fqm_2 fqh_2 y3_2 (fz0q10_1 j2) (ho + j1) zt).2.2.1) ((F_X7_findRows zp cA fqs_2 fqo_2 fqm_2 fqh_2 y3_2 (fz0q10_1 j2) (ho + j1) zt).2.2.2.1) ((F_X7_arriveByAll zd y13_2 pw fze3_2 fz0q11_2 ((F_X7_findRows zp cA fqs_2 fqo_2 fqm_2 fqh_2 y3_2 (fz0q10_1 j2) (ho + j1) zt).1) ((F_X7_findRows zp cA fqs_2 fqo_2 fqm_2 fqh_2 y3_2 (fz0q10_1 j2) (ho + j1) zt).2.2.2.2) (fz0q10_1 j2) (nI (ho + j1 - ho + 1)) (0 : Int32)).2.2) ((F_X7_findRows zp cA fqs_2 fqo_2 fqm_2 fqh_2 y3_2 (fz0q10_1 j2) (ho + j1) zt).2.2.2.2) (nI zp) (by omega) (by omega) hRI3 (abF_NC hn1_2) (by rw [L2_X7_leastHours, ← hst2]; exact (show L2_X7_leastHourss zp zd zt cA pw ho j1 fz0q10_1 j2 fze3_2 fz0q11_2 fqs_2 fqo_2 fqm_2 fqh_2 y13_2 y3_2 y5_2 = (((F_X7_arriveByAll zd y13_2 pw fze3_2 fz0q11_2 ((F_X7_findRows zp cA fqs_2 fqo_2 fqm_2 fqh_2 y3_2 (fz0q10_1 j2) (ho + j1) zt).1) ((F_X7_findRows zp cA fqs_2 fqo_2 fqm_2 fqh_2 y3_2 (fz0q10_1 j2) (ho + j1) zt).2.2.2.2) (fz0q10_1 j2) (nI (ho + j1 - ho + 1)) (0 : Int32)).1), ((F_X7_arriveByAll zd y13_2 pw fze3_2 fz0q11_2 ((F_X7_findRows zp cA fqs_2 fqo_2 fqm_2 fqh_2 y3_2 (fz0q10_1 j2) (ho + j1) zt).1) ((F_X7_findRows zp cA fqs_2 fqo_2 fqm_2 fqh_2 y3_2 (fz0q10_1 j2) (ho + j1) zt).2.2.2.2) (fz0q10_1 j2) (nI (ho + j1 - ho + 1)) (0 : Int32)).2.1), ((F_X7_findRows zp cA fqs_2 fqo_2 fqm_2 fqh_2 y3_2 (fz0q10_1 j2) (ho + j1) zt).1), ((F_X7_findRows zp cA fqs_2 fqo_2 fqm_2 fqh_2 y3_2 (fz0q10_1 j2) (ho + j1) zt).2.1), ((F_X7_findRows zp cA fqs_2 fqo_2 fqm_2 fqh_2 y3_2 (fz0q10_1 j2) (ho + j1) zt).2.2.1), ((F_X7_findRows zp cA fqs_2 fqo_2 fqm_2 fqh_2 y3_2 (fz0q10_1 j2) (ho + j1) zt).2.2.2.1), (F_X7_arriveByAll zd y13_2 pw fze3_2 fz0q11_2 ((F_X7_findRows zp cA fqs_2 fqo_2 fqm_2 fqh_2 y3_2 (fz0q10_1 j2) (ho + j1) zt).1) ((F_X7_findRows zp cA fqs_2 fqo_2 fqm_2 fqh_2 y3_2 (fz0q10_1 j2) (ho + j1) zt).2.2.2.2) (fz0q10_1 j2) (nI (ho + j1 - ho + 1)) (0 : Int32)).2.2, ((F_X7_findRows zp cA fqs_2 fqo_2 fqm_2 fqh_2 y3_2 (fz0q10_1 j2) (ho + j1) zt).2.2.2.2), (nI zp)) from rfl).symm) _ _ _ hW (lv_sub hl [0, 1, 2, 3, 4, 5, 6] rfl)
            exact loop2 ((tN y12_1) + 1) 0 fze3_1 fz0q11_1 fqs_1 fqo_1 fqm_1 fqh_1 (0 : Int32) y3_1 y5_1 (by omega) (by omega) hRI1 NC_0 rfl _ _ _ hW (lv_sub hl [0, 1, 2, 3, 4, 5, 6] rfl)
      exact loop1 ((25 - ho) + 1) 0 ((F_X7_begin pw nx x y).1) ((F_X7_begin pw nx x y).2.1) nw fS fO fM fC ((F_X7_begin pw nx x y).2.2) rc rp ze6 ze5 (by omega) (by omega) hRI be_NC (show F_X7_leastHours ze5 ze6 zp zd zt zm cA pw nw nx fS fO fM fC rc rp x y ho = L1_X7_leastHours zp zd zt zm cA pw ho ((25 - ho) + 1) 0 ((F_X7_begin pw nx x y).1) ((F_X7_begin pw nx x y).2.1) nw fS fO fM fC ((F_X7_begin pw nx x y).2.2) rc rp ze6 ze5 from by rw [F_X7_leastHours, if_pos c2, if_neg c6]).symm _ _ _ hW (lv_sub hl [0, 1, 2, 3, 4] rfl)
    · refine lv_iconst (v := (-1)) (pc := 31) hx hb dX7_leastHours_31 (by decide) ?_
      have hF : F_X7_leastHours ze5 ze6 zp zd zt zm cA pw nw nx fS fO fM fC rc rp x y ho = ((-1 : Int32), ze6, ze5, ((F_X7_begin pw nx x y).1), ((F_X7_begin pw nx x y).2.1), nw, ((F_X7_begin pw nx x y).2.2), fS, fO, fM, fC, rc, rp) := show F_X7_leastHours ze5 ze6 zp zd zt zm cA pw nw nx fS fO fM fC rc rp x y ho = ((-1 : Int32), ze6, ze5, ((F_X7_begin pw nx x y).1), ((F_X7_begin pw nx x y).2.1), nw, ((F_X7_begin pw nx x y).2.2), fS, fO, fM, fC, rc, rp) from by rw [F_X7_leastHours, if_pos c2, if_pos c6]
      exact e_i (u := [(z0, .inr (7, [.ref zr, .int (nI zp), .int zd, .int zt, .int zm, .ref zc, .ref ze1, .ref ze2, .ref ze3, .ref ze4, .ref ze6, .ref ze5, .int ((F_X7_begin pw nx x y).2.2), .int (0 : Int32), .int zi2, .int zi3, .int zi4])), (zc, .inl (g.2.1 1, 175, .inl cA)), (ze1, .inl (g.2.1 1, 128, .inl pw)), (ze3, .inl (g.2.1 1, 2187, .inl ((F_X7_begin pw nx x y).1))), (ze6, .inl (g.2.1 1, 2187, .inl ((F_X7_begin pw nx x y).2.1))), (ze5, .inl (g.2.1 1, 2187, .inl nw)), (zr, .inr (5, [.ref qs, .ref qo, .ref qm, .int rc, .ref qh, .int rp])), (qs, .inl (g.2.1 1, 128, .inl fS)), (qo, .inl (g.2.1 1, 128, .inl fO)), (qm, .inl (g.2.1 3, 128, .inl fM)), (qh, .inl (g.2.1 1, 7, .inl fC))]) X hQ hr (hW) [10, 9, 6, 7, 8, 0, 1, 2, 3, 4, 5] rfl rfl (⟨(congrArg Prod.fst hF).symm, by rw [hF]⟩) ⟨Nat.le_of_ble_eq_true rfl, Nat.le_of_ble_eq_true rfl⟩ dX7_leastHours_32
  · refine lv_iconst (v := 0) (pc := 14) hx hb dX7_leastHours_14 (by decide) ?_
    have hF : F_X7_leastHours ze5 ze6 zp zd zt zm cA pw nw nx fS fO fM fC rc rp x y ho = ((0 : Int32), ze6, ze5, ((F_X7_begin pw nx x y).1), ((F_X7_begin pw nx x y).2.1), nw, ((F_X7_begin pw nx x y).2.2), fS, fO, fM, fC, rc, rp) := show F_X7_leastHours ze5 ze6 zp zd zt zm cA pw nw nx fS fO fM fC rc rp x y ho = ((0 : Int32), ze6, ze5, ((F_X7_begin pw nx x y).1), ((F_X7_begin pw nx x y).2.1), nw, ((F_X7_begin pw nx x y).2.2), fS, fO, fM, fC, rc, rp) from by rw [F_X7_leastHours, if_neg c2]
    exact e_i (u := [(z0, .inr (7, [.ref zr, .int (nI zp), .int zd, .int zt, .int zm, .ref zc, .ref ze1, .ref ze2, .ref ze3, .ref ze4, .ref ze6, .ref ze5, .int ((F_X7_begin pw nx x y).2.2), .int (0 : Int32), .int zi2, .int zi3, .int zi4])), (zc, .inl (g.2.1 1, 175, .inl cA)), (ze1, .inl (g.2.1 1, 128, .inl pw)), (ze3, .inl (g.2.1 1, 2187, .inl ((F_X7_begin pw nx x y).1))), (ze6, .inl (g.2.1 1, 2187, .inl ((F_X7_begin pw nx x y).2.1))), (ze5, .inl (g.2.1 1, 2187, .inl nw)), (zr, .inr (5, [.ref qs, .ref qo, .ref qm, .int rc, .ref qh, .int rp])), (qs, .inl (g.2.1 1, 128, .inl fS)), (qo, .inl (g.2.1 1, 128, .inl fO)), (qm, .inl (g.2.1 3, 128, .inl fM)), (qh, .inl (g.2.1 1, 7, .inl fC))]) X hQ hr (hW) [10, 0, 7, 8, 9, 1, 2, 3, 4, 5, 6] rfl rfl (⟨(congrArg Prod.fst hF).symm, by rw [hF]⟩) ⟨Nat.le_of_ble_eq_true rfl, Nat.le_of_ble_eq_true rfl⟩ dX7_leastHours_15


set_option maxHeartbeats 4000000 in
set_option maxRecDepth 100000 in
theorem C_X12_thrown (l : Launch) (g : GG) (h0 b1 b6 b7 b8 b9 b10 b11 b12 b13 b14 b15 b16 b17 b21 b22 b23 b24 b25 b26 b28 b29 b30 b31 b32 b33 b34 b35 b36 b46 b47 b48 b49 b50 b51 b52 b53 b54 b55 b56 b57 b58 b59 b60 b61 b62 b63 : Nat)  : MetI l g yX12_thrown cX12_thrown 1 (some .int) 0 0 0 [.ref h0] [(h0, .inr (12, [.int 1, .ref b1, .int 0, .int 0, .int 0, .int 0, .ref b6, .ref b7, .ref b8, .ref b9, .ref b10, .ref b11, .ref b12, .ref b13, .ref b14, .ref b15, .ref b16, .ref b17, .int 0, .int (-1), .int (-1), .ref b21, .ref b22, .ref b23, .ref b24, .ref b25, .ref b26, .int 0, .ref b28, .ref b29, .ref b30, .ref b31, .ref b32, .ref b33, .ref b34, .ref b35, .ref b36, .int 0, .int 0, .int 0, .int 0, .int 0, .int 0, .int 0, .int 0, .int 0, .ref b46, .ref b47, .ref b48, .ref b49, .ref b50, .ref b51, .ref b52, .ref b53, .ref b54, .ref b55, .ref b56, .ref b57, .ref b58, .ref b59, .ref b60, .ref b61, .ref b62, .ref b63]))] (fun r u => r = 1 ∧ u = [(h0, .inr (12, [.int 1, .ref b1, .int 0, .int 0, .int 0, .int 0, .ref b6, .ref b7, .ref b8, .ref b9, .ref b10, .ref b11, .ref b12, .ref b13, .ref b14, .ref b15, .ref b16, .ref b17, .int 0, .int (-1), .int (-1), .ref b21, .ref b22, .ref b23, .ref b24, .ref b25, .ref b26, .int 0, .ref b28, .ref b29, .ref b30, .ref b31, .ref b32, .ref b33, .ref b34, .ref b35, .ref b36, .int 0, .int 0, .int 0, .int 0, .int 0, .int 0, .int 0, .int 0, .int 0, .ref b46, .ref b47, .ref b48, .ref b49, .ref b50, .ref b51, .ref b52, .ref b53, .ref b54, .ref b55, .ref b56, .ref b57, .ref b58, .ref b59, .ref b60, .ref b61, .ref b62, .ref b63]))]) := by
  refine MetI.of (own := RX12) rfl (by decide) (Nat.le_of_ble_eq_true rfl) ?_
  intro p e s m below meth c A ls args Q hQ X hr hin hW hl
  have hx := X.1
  have hb := X.2.1
  have hl : lv_has ls 1 [(0, .ref h0)] := hl
  refine lv_aload_n (pc := 0) hx hb dX12_thrown_0 rfl (lv_at hl 0 rfl) ?_
  refine r_get X hW 0 ciX12 0 rfl (by decide) m_1231 rfl rfl dX12_thrown_1 ?_
  exact e_i X hQ hr hW (u := [(h0, .inr (12, [.int 1, .ref b1, .int 0, .int 0, .int 0, .int 0, .ref b6, .ref b7, .ref b8, .ref b9, .ref b10, .ref b11, .ref b12, .ref b13, .ref b14, .ref b15, .ref b16, .ref b17, .int 0, .int (-1), .int (-1), .ref b21, .ref b22, .ref b23, .ref b24, .ref b25, .ref b26, .int 0, .ref b28, .ref b29, .ref b30, .ref b31, .ref b32, .ref b33, .ref b34, .ref b35, .ref b36, .int 0, .int 0, .int 0, .int 0, .int 0, .int 0, .int 0, .int 0, .int 0, .ref b46, .ref b47, .ref b48, .ref b49, .ref b50, .ref b51, .ref b52, .ref b53, .ref b54, .ref b55, .ref b56, .ref b57, .ref b58, .ref b59, .ref b60, .ref b61, .ref b62, .ref b63]))]) [0] rfl rfl (⟨rfl, rfl⟩) ⟨Nat.le_of_ble_eq_true rfl, Nat.le_of_ble_eq_true rfl⟩ dX12_thrown_4

set_option maxHeartbeats 4000000 in
set_option maxRecDepth 100000 in
theorem law_end {p : Program} {e : Env} {s : State} {m : MethodId} {below : List Frame} {meth : Method} {c : Code} {l : Launch} {b : Nat} {xs : Nat → Int32} {g : GG} {H : Heap} {locs : List Loc} {ls : Array Slot} {cells slots : Nat} (X : CTX p l m meth c cL_law 7 s #[Value.ref b] RL g (AL s)) (hr : meth.sig.returnType = ret) (hX : va_X b 6 xs s s.heap) (hbl : b < s.heap.size) (hc : cells ≤ 600002 ∧ slots ≤ 7302232) (hW : WD g (AL s) s H locs []) (hl : lv_has ls 7 [(0, .ref b), (4, .int 0)]) : W p l e room_1 s m #[Value.ref b] below meth c H locs cells slots (lw_Z below #[Value.ref b] s) (F0 m 1865 ls []) := by
  have hx := X.1
  have hb := X.2.1
  have hbA : ¬ (AL s) b := Nat.not_le.mpr hbl
  refine lv_iinc (v := 6) (lv' := [(4, .int 6), (0, .ref b)]) (pc := 1865) hx hb dL_law_1865 hl (k := 1) rfl (by decide +kernel) (by decide) rfl (fun ls hl => ?_)
  refine lv_goto (tgt := 23) (pc := 1868) hx hb dL_law_1868 rfl ?_
  refine lv_iload (pc := 23) hx hb dL_law_23 (lv_at hl 0 rfl) ?_
  refine lv_aload_n (pc := 25) hx hb dL_law_25 rfl (lv_at hl 1 rfl) ?_
  refine va_slen (pc := 26) hx hb hX hbl hbA hW.2.2 dL_law_26 ?_
  refine lv_bipush (v := 6) (pc := 27) hx hb dL_law_27 (by decide) ?_
  refine lv_isub (pc := 29) hx hb dL_law_29 ?_
  refine lv_topi (fun v1 ev1 => ?_)
  obtain rfl : v1 = 0 := ev1.trans (by decide +kernel)
  refine lv_icmp_gt (tgt := 1871) (pc := 30) hx hb dL_law_30 rfl (fun c2 => ?_) (fun c2 => absurd (by decide) c2)
  refine lv_iconst (v := 1) (pc := 1871) hx hb dL_law_1871 (by decide) ?_
  refine va_forget (fun q hq => hW.2.2.2.2 q hq) ?_
  refine W.widen (k := 600002) (n := 7302232) hc.1 hc.2 ?_
  exact lw_ret hx hb hr X.2.2.2.2.2.2.2.2 dL_law_1872

set_option maxHeartbeats 4000000 in
set_option maxRecDepth 100000 in
theorem law_0 {p : Program} {e : Env} {s : State} {m : MethodId} {below : List Frame} {meth : Method} {c : Code} {l : Launch} {b : Nat} {xs : Nat → Int32} {g : GG} {H : Heap} {locs : List Loc} {ls : Array Slot} {a0 a1 a10 a2 a3 a4 a5 a6 a7 a8 a9 b1 b10 b11 b12 b13 b14 b15 b16 b17 b21 b22 b23 b24 b25 b26 b28 b29 b30 b31 b32 b33 b34 b35 b36 b46 b47 b48 b49 b50 b51 b52 b53 b54 b55 b56 b57 b58 b59 b6 b60 b61 b62 b63 b7 b8 b9 m0 o0 tq x0 : Nat} (X : CTX p l m meth c cL_law 7 s #[Value.ref b] RL g (AL s)) (hr : meth.sig.returnType = ret) (hX : va_X b 6 xs s s.heap) (hbl : b < s.heap.size) (hW : WD g (AL s) s H locs [(x0, .inr (11, [.ref a0, .ref a1, .ref a2, .ref a3, .ref a4, .ref a5, .ref a6, .ref a7, .ref a8, .ref a9, .ref a10, .int 0, .int 0, .int 0])), (a0, .inr (8, [.ref tq, .int 0, .int 0])), (tq, .inl (g.2.1 1, 400, .inl (fun _ => 0))), (m0, .inr (12, [.int 0, .ref b1, .int 0, .int 0, .int 0, .int 0, .ref b6, .ref b7, .ref b8, .ref b9, .ref b10, .ref b11, .ref b12, .ref b13, .ref b14, .ref b15, .ref b16, .ref b17, .int 0, .int (-1), .int (-1), .ref b21, .ref b22, .ref b23, .ref b24, .ref b25, .ref b26, .int 0, .ref b28, .ref b29, .ref b30, .ref b31, .ref b32, .ref b33, .ref b34, .ref b35, .ref b36, .int 0, .int 0, .int 0, .int 0, .int 0, .int 0, .int 0, .int 0, .int 0, .ref b46, .ref b47, .ref b48, .ref b49, .ref b50, .ref b51, .ref b52, .ref b53, .ref b54, .ref b55, .ref b56, .ref b57, .ref b58, .ref b59, .ref b60, .ref b61, .ref b62, .ref b63])), (b1, .inl (g.2.1 0, 400, .inl (fun _ => 0)))]) (hl : lv_has ls 7 [(0, .ref b), (1, .ref x0), (2, .ref m0), (3, .ref o0), (4, .int 0)]) : W p l e room_1 s m #[Value.ref b] below meth c H locs 97 615458 (lw_Z below #[Value.ref b] s) (F0 m 204 ls []) := by
  have hx := X.1
  have hb := X.2.1
  have hbA : ¬ (AL s) b := Nat.not_le.mpr hbl
  refine lv_aload_n (pc := 204) hx hb dL_law_204 rfl (lv_at hl 1 rfl) ?_
  refine lv_aload_n (pc := 205) hx hb dL_law_205 rfl (lv_at hl 0 rfl) ?_
  refine lv_iload (pc := 206) hx hb dL_law_206 (lv_at hl 4 rfl) ?_
  refine lv_iconst (v := 1) (pc := 208) hx hb dL_law_208 (by decide) ?_
  refine lv_iadd (pc := 209) hx hb dL_law_209 ?_
  refine lv_topi (fun v1 ev1 => ?_)
  obtain rfl : v1 = 1 := ev1.trans (by decide +kernel)
  refine va_sld (pc := 210) hx hb hX hbl hbA hW.2.2 (vp_in_nI (n := 1) (by decide) (by decide)) dL_law_210 ?_
  refine lv_aload_n (pc := 211) hx hb dL_law_211 rfl (lv_at hl 0 rfl) ?_
  refine lv_iload (pc := 212) hx hb dL_law_212 (lv_at hl 4 rfl) ?_
  refine lv_iconst (v := 2) (pc := 214) hx hb dL_law_214 (by decide) ?_
  refine lv_iadd (pc := 215) hx hb dL_law_215 ?_
  refine lv_topi (fun v2 ev2 => ?_)
  obtain rfl : v2 = 2 := ev2.trans (by decide +kernel)
  refine va_sld (pc := 216) hx hb hX hbl hbA hW.2.2 (vp_in_nI (n := 2) (by decide) (by decide)) dL_law_216 ?_
  refine lv_aload_n (pc := 217) hx hb dL_law_217 rfl (lv_at hl 0 rfl) ?_
  refine lv_iload (pc := 218) hx hb dL_law_218 (lv_at hl 4 rfl) ?_
  refine lv_iconst (v := 3) (pc := 220) hx hb dL_law_220 (by decide) ?_
  refine lv_iadd (pc := 221) hx hb dL_law_221 ?_
  refine lv_topi (fun v3 ev3 => ?_)
  obtain rfl : v3 = 3 := ev3.trans (by decide +kernel)
  refine va_sld (pc := 222) hx hb hX hbl hbA hW.2.2 (vp_in_nI (n := 3) (by decide) (by decide)) dL_law_222 ?_
  refine lv_aload_n (pc := 223) hx hb dL_law_223 rfl (lv_at hl 0 rfl) ?_
  refine lv_iload (pc := 224) hx hb dL_law_224 (lv_at hl 4 rfl) ?_
  refine lv_iconst (v := 4) (pc := 226) hx hb dL_law_226 (by decide) ?_
  refine lv_iadd (pc := 227) hx hb dL_law_227 ?_
  refine lv_topi (fun v4 ev4 => ?_)
  obtain rfl : v4 = 4 := ev4.trans (by decide +kernel)
  refine va_sld (pc := 228) hx hb hX hbl hbA hW.2.2 (vp_in_nI (n := 4) (by decide) (by decide)) dL_law_228 ?_
  refine lv_aload_n (pc := 229) hx hb dL_law_229 rfl (lv_at hl 0 rfl) ?_
  refine lv_iload (pc := 230) hx hb dL_law_230 (lv_at hl 4 rfl) ?_
  refine lv_iconst (v := 5) (pc := 232) hx hb dL_law_232 (by decide) ?_
  refine lv_iadd (pc := 233) hx hb dL_law_233 ?_
  refine lv_topi (fun v5 ev5 => ?_)
  obtain rfl : v5 = 5 := ev5.trans (by decide +kernel)
  refine va_sld (pc := 234) hx hb hX hbl hbA hW.2.2 (vp_in_nI (n := 5) (by decide) (by decide)) dL_law_234 ?_
  refine c_Vi (pc := 235) (As := [.int (xs (1 : Int32).toNatClampNeg), .int (xs (2 : Int32).toNatClampNeg), .int (xs (3 : Int32).toNatClampNeg), .int (xs (4 : Int32).toNatClampNeg), .int (xs (5 : Int32).toNatClampNeg)]) (rest := []) (wr := [(m0, .inr (12, [.int 0, .ref b1, .int 0, .int 0, .int 0, .int 0, .ref b6, .ref b7, .ref b8, .ref b9, .ref b10, .ref b11, .ref b12, .ref b13, .ref b14, .ref b15, .ref b16, .ref b17, .int 0, .int (-1), .int (-1), .ref b21, .ref b22, .ref b23, .ref b24, .ref b25, .ref b26, .int 0, .ref b28, .ref b29, .ref b30, .ref b31, .ref b32, .ref b33, .ref b34, .ref b35, .ref b36, .int 0, .int 0, .int 0, .int 0, .int 0, .int 0, .int 0, .int 0, .int 0, .ref b46, .ref b47, .ref b48, .ref b49, .ref b50, .ref b51, .ref b52, .ref b53, .ref b54, .ref b55, .ref b56, .ref b57, .ref b58, .ref b59, .ref b60, .ref b61, .ref b62, .ref b63])), (b1, .inl (g.2.1 0, 400, .inl (fun _ => 0)))]) X hW 0 ciX11 rfl (C_X11_feed l g x0 a0 a1 a2 a3 a4 a5 a6 a7 a8 a9 a10 tq (xs (1 : Int32).toNatClampNeg) (xs (2 : Int32).toNatClampNeg) (xs (3 : Int32).toNatClampNeg) (xs (4 : Int32).toNatClampNeg) (xs (5 : Int32).toNatClampNeg)) vL_19 [0, 1, 2] [3, 4] rfl rfl rfl rfl rfl rfl hl.1 rfl (Nat.le_of_ble_eq_true rfl) ⟨Nat.le_of_ble_eq_true rfl, Nat.le_of_ble_eq_true rfl⟩ ⟨Nat.le_of_ble_eq_true rfl, Nat.le_of_ble_eq_true rfl⟩ dL_law_235 (fun r6 u9 H locs hq hW => ?_)
  obtain ⟨rfl, rfl⟩ := hq
  have hW : WD g (AL s) s _ _ [(m0, .inr (12, [.int 0, .ref b1, .int 0, .int 0, .int 0, .int 0, .ref b6, .ref b7, .ref b8, .ref b9, .ref b10, .ref b11, .ref b12, .ref b13, .ref b14, .ref b15, .ref b16, .ref b17, .int 0, .int (-1), .int (-1), .ref b21, .ref b22, .ref b23, .ref b24, .ref b25, .ref b26, .int 0, .ref b28, .ref b29, .ref b30, .ref b31, .ref b32, .ref b33, .ref b34, .ref b35, .ref b36, .int 0, .int 0, .int 0, .int 0, .int 0, .int 0, .int 0, .int 0, .int 0, .ref b46, .ref b47, .ref b48, .ref b49, .ref b50, .ref b51, .ref b52, .ref b53, .ref b54, .ref b55, .ref b56, .ref b57, .ref b58, .ref b59, .ref b60, .ref b61, .ref b62, .ref b63])), (b1, .inl (g.2.1 0, 400, .inl (fun _ => 0)))] := hW
  refine lv_aload_n (pc := 238) hx hb dL_law_238 rfl (lv_at hl 2 rfl) ?_
  refine lv_aload_n (pc := 239) hx hb dL_law_239 rfl (lv_at hl 0 rfl) ?_
  refine lv_iload (pc := 240) hx hb dL_law_240 (lv_at hl 4 rfl) ?_
  refine lv_iconst (v := 1) (pc := 242) hx hb dL_law_242 (by decide) ?_
  refine lv_iadd (pc := 243) hx hb dL_law_243 ?_
  refine lv_topi (fun v7 ev7 => ?_)
  obtain rfl : v7 = 1 := ev7.trans (by decide +kernel)
  refine va_sld (pc := 244) hx hb hX hbl hbA hW.2.2 (vp_in_nI (n := 1) (by decide) (by decide)) dL_law_244 ?_
  refine lv_aload_n (pc := 245) hx hb dL_law_245 rfl (lv_at hl 0 rfl) ?_
  refine lv_iload (pc := 246) hx hb dL_law_246 (lv_at hl 4 rfl) ?_
  refine lv_iconst (v := 2) (pc := 248) hx hb dL_law_248 (by decide) ?_
  refine lv_iadd (pc := 249) hx hb dL_law_249 ?_
  refine lv_topi (fun v8 ev8 => ?_)
  obtain rfl : v8 = 2 := ev8.trans (by decide +kernel)
  refine va_sld (pc := 250) hx hb hX hbl hbA hW.2.2 (vp_in_nI (n := 2) (by decide) (by decide)) dL_law_250 ?_
  refine lv_aload_n (pc := 251) hx hb dL_law_251 rfl (lv_at hl 0 rfl) ?_
  refine lv_iload (pc := 252) hx hb dL_law_252 (lv_at hl 4 rfl) ?_
  refine lv_iconst (v := 3) (pc := 254) hx hb dL_law_254 (by decide) ?_
  refine lv_iadd (pc := 255) hx hb dL_law_255 ?_
  refine lv_topi (fun v9 ev9 => ?_)
  obtain rfl : v9 = 3 := ev9.trans (by decide +kernel)
  refine va_sld (pc := 256) hx hb hX hbl hbA hW.2.2 (vp_in_nI (n := 3) (by decide) (by decide)) dL_law_256 ?_
  refine lv_aload_n (pc := 257) hx hb dL_law_257 rfl (lv_at hl 0 rfl) ?_
  refine lv_iload (pc := 258) hx hb dL_law_258 (lv_at hl 4 rfl) ?_
  refine lv_iconst (v := 4) (pc := 260) hx hb dL_law_260 (by decide) ?_
  refine lv_iadd (pc := 261) hx hb dL_law_261 ?_
  refine lv_topi (fun v10 ev10 => ?_)
  obtain rfl : v10 = 4 := ev10.trans (by decide +kernel)
  refine va_sld (pc := 262) hx hb hX hbl hbA hW.2.2 (vp_in_nI (n := 4) (by decide) (by decide)) dL_law_262 ?_
  refine lv_aload_n (pc := 263) hx hb dL_law_263 rfl (lv_at hl 0 rfl) ?_
  refine lv_iload (pc := 264) hx hb dL_law_264 (lv_at hl 4 rfl) ?_
  refine lv_iconst (v := 5) (pc := 266) hx hb dL_law_266 (by decide) ?_
  refine lv_iadd (pc := 267) hx hb dL_law_267 ?_
  refine lv_topi (fun v11 ev11 => ?_)
  obtain rfl : v11 = 5 := ev11.trans (by decide +kernel)
  refine va_sld (pc := 268) hx hb hX hbl hbA hW.2.2 (vp_in_nI (n := 5) (by decide) (by decide)) dL_law_268 ?_
  refine c_Vi (pc := 269) (As := [.int (xs (1 : Int32).toNatClampNeg), .int (xs (2 : Int32).toNatClampNeg), .int (xs (3 : Int32).toNatClampNeg), .int (xs (4 : Int32).toNatClampNeg), .int (xs (5 : Int32).toNatClampNeg)]) (rest := [.int (nI (((((0 + cnt (xs (1 : Int32).toNatClampNeg) 4) + cnt (xs (2 : Int32).toNatClampNeg) 4) + cnt (xs (3 : Int32).toNatClampNeg) 4) + cnt (xs (4 : Int32).toNatClampNeg) 4) + cnt (xs (5 : Int32).toNatClampNeg) 4))]) (wr := []) X hW 0 ciX12 rfl (C_X12_feed l g m0 b1 b6 b7 b8 b9 b10 b11 b12 b13 b14 b15 b16 b17 b21 b22 b23 b24 b25 b26 b28 b29 b30 b31 b32 b33 b34 b35 b36 b46 b47 b48 b49 b50 b51 b52 b53 b54 b55 b56 b57 b58 b59 b60 b61 b62 b63 (xs (1 : Int32).toNatClampNeg) (xs (2 : Int32).toNatClampNeg) (xs (3 : Int32).toNatClampNeg) (xs (4 : Int32).toNatClampNeg) (xs (5 : Int32).toNatClampNeg)) vL_23 [0, 1] [] rfl rfl rfl rfl rfl rfl hl.1 rfl (Nat.le_of_ble_eq_true rfl) ⟨Nat.le_of_ble_eq_true rfl, Nat.le_of_ble_eq_true rfl⟩ ⟨Nat.le_of_ble_eq_true rfl, Nat.le_of_ble_eq_true rfl⟩ dL_law_269 (fun r12 u9 H locs hq hW => ?_)
  obtain ⟨rfl, rfl⟩ := hq
  have hW : WD g (AL s) s _ _ [] := hW
  refine lv_icmp_eq (tgt := 1865) (pc := 272) hx hb dL_law_272 rfl (fun c13 => ?_) (fun c13 => absurd (rfl : nI (((((0 + cnt (xs (1 : Int32).toNatClampNeg) 4) + cnt (xs (2 : Int32).toNatClampNeg) 4) + cnt (xs (3 : Int32).toNatClampNeg) 4) + cnt (xs (4 : Int32).toNatClampNeg) 4) + cnt (xs (5 : Int32).toNatClampNeg) 4) = nI (((((0 + cnt (xs (1 : Int32).toNatClampNeg) 4) + cnt (xs (2 : Int32).toNatClampNeg) 4) + cnt (xs (3 : Int32).toNatClampNeg) 4) + cnt (xs (4 : Int32).toNatClampNeg) 4) + cnt (xs (5 : Int32).toNatClampNeg) 4)) c13)
  exact law_end X hr hX hbl ⟨Nat.le_of_ble_eq_true rfl, Nat.le_of_ble_eq_true rfl⟩ (hW.pick [] rfl rfl) (lv_sub hl [0, 4] rfl)

set_option maxHeartbeats 4000000 in
set_option maxRecDepth 100000 in
theorem law_1 {p : Program} {e : Env} {s : State} {m : MethodId} {below : List Frame} {meth : Method} {c : Code} {l : Launch} {b : Nat} {xs : Nat → Int32} {g : GG} {H : Heap} {locs : List Loc} {ls : Array Slot} {a0 a1 a10 a2 a3 a4 a5 a6 a7 a8 a9 b1 b10 b11 b12 b13 b14 b15 b16 b17 b21 b22 b23 b24 b25 b26 b28 b29 b30 b31 b32 b33 b34 b35 b36 b46 b47 b48 b49 b50 b51 b52 b53 b54 b55 b56 b57 b58 b59 b6 b60 b61 b62 b63 b7 b8 b9 m0 o0 tq x0 : Nat} (X : CTX p l m meth c cL_law 7 s #[Value.ref b] RL g (AL s)) (hr : meth.sig.returnType = ret) (hX : va_X b 6 xs s s.heap) (hbl : b < s.heap.size) (hW : WD g (AL s) s H locs [(x0, .inr (11, [.ref a0, .ref a1, .ref a2, .ref a3, .ref a4, .ref a5, .ref a6, .ref a7, .ref a8, .ref a9, .ref a10, .int 0, .int 0, .int 0])), (a0, .inr (8, [.ref tq, .int 0, .int 0])), (tq, .inl (g.2.1 1, 400, .inl (fun _ => 0))), (m0, .inr (12, [.int 0, .ref b1, .int 0, .int 0, .int 0, .int 0, .ref b6, .ref b7, .ref b8, .ref b9, .ref b10, .ref b11, .ref b12, .ref b13, .ref b14, .ref b15, .ref b16, .ref b17, .int 0, .int (-1), .int (-1), .ref b21, .ref b22, .ref b23, .ref b24, .ref b25, .ref b26, .int 0, .ref b28, .ref b29, .ref b30, .ref b31, .ref b32, .ref b33, .ref b34, .ref b35, .ref b36, .int 0, .int 0, .int 0, .int 0, .int 0, .int 0, .int 0, .int 0, .int 0, .ref b46, .ref b47, .ref b48, .ref b49, .ref b50, .ref b51, .ref b52, .ref b53, .ref b54, .ref b55, .ref b56, .ref b57, .ref b58, .ref b59, .ref b60, .ref b61, .ref b62, .ref b63]))]) (hl : lv_has ls 7 [(0, .ref b), (1, .ref x0), (2, .ref m0), (3, .ref o0), (4, .int 0)]) : W p l e room_1 s m #[Value.ref b] below meth c H locs 97 615458 (lw_Z below #[Value.ref b] s) (F0 m 277 ls []) := by
  have hx := X.1
  have hb := X.2.1
  have hbA : ¬ (AL s) b := Nat.not_le.mpr hbl
  refine lv_aload_n (pc := 277) hx hb dL_law_277 rfl (lv_at hl 1 rfl) ?_
  refine lv_aload_n (pc := 278) hx hb dL_law_278 rfl (lv_at hl 0 rfl) ?_
  refine lv_iload (pc := 279) hx hb dL_law_279 (lv_at hl 4 rfl) ?_
  refine lv_iconst (v := 1) (pc := 281) hx hb dL_law_281 (by decide) ?_
  refine lv_iadd (pc := 282) hx hb dL_law_282 ?_
  refine lv_topi (fun v1 ev1 => ?_)
  obtain rfl : v1 = 1 := ev1.trans (by decide +kernel)
  refine va_sld (pc := 283) hx hb hX hbl hbA hW.2.2 (vp_in_nI (n := 1) (by decide) (by decide)) dL_law_283 ?_
  refine c_Vi (pc := 284) (As := [.int (xs (1 : Int32).toNatClampNeg)]) (rest := []) (wr := [(m0, .inr (12, [.int 0, .ref b1, .int 0, .int 0, .int 0, .int 0, .ref b6, .ref b7, .ref b8, .ref b9, .ref b10, .ref b11, .ref b12, .ref b13, .ref b14, .ref b15, .ref b16, .ref b17, .int 0, .int (-1), .int (-1), .ref b21, .ref b22, .ref b23, .ref b24, .ref b25, .ref b26, .int 0, .ref b28, .ref b29, .ref b30, .ref b31, .ref b32, .ref b33, .ref b34, .ref b35, .ref b36, .int 0, .int 0, .int 0, .int 0, .int 0, .int 0, .int 0, .int 0, .int 0, .ref b46, .ref b47, .ref b48, .ref b49, .ref b50, .ref b51, .ref b52, .ref b53, .ref b54, .ref b55, .ref b56, .ref b57, .ref b58, .ref b59, .ref b60, .ref b61, .ref b62, .ref b63]))]) X hW 0 ciX11 rfl (C_X11_end l g x0 a0 a1 a2 a3 a4 a5 a6 a7 a8 a9 a10 tq (xs (1 : Int32).toNatClampNeg)) vL_24 [0, 1, 2] [3] rfl rfl rfl rfl rfl rfl hl.1 rfl (Nat.le_of_ble_eq_true rfl) ⟨Nat.le_of_ble_eq_true rfl, Nat.le_of_ble_eq_true rfl⟩ ⟨Nat.le_of_ble_eq_true rfl, Nat.le_of_ble_eq_true rfl⟩ dL_law_284 (fun r2 u9 H locs hq hW => ?_)
  obtain ⟨rfl, rfl⟩ := hq
  have hW : WD g (AL s) s _ _ [(m0, .inr (12, [.int 0, .ref b1, .int 0, .int 0, .int 0, .int 0, .ref b6, .ref b7, .ref b8, .ref b9, .ref b10, .ref b11, .ref b12, .ref b13, .ref b14, .ref b15, .ref b16, .ref b17, .int 0, .int (-1), .int (-1), .ref b21, .ref b22, .ref b23, .ref b24, .ref b25, .ref b26, .int 0, .ref b28, .ref b29, .ref b30, .ref b31, .ref b32, .ref b33, .ref b34, .ref b35, .ref b36, .int 0, .int 0, .int 0, .int 0, .int 0, .int 0, .int 0, .int 0, .int 0, .ref b46, .ref b47, .ref b48, .ref b49, .ref b50, .ref b51, .ref b52, .ref b53, .ref b54, .ref b55, .ref b56, .ref b57, .ref b58, .ref b59, .ref b60, .ref b61, .ref b62, .ref b63]))] := hW
  refine lv_aload_n (pc := 287) hx hb dL_law_287 rfl (lv_at hl 2 rfl) ?_
  refine lv_aload_n (pc := 288) hx hb dL_law_288 rfl (lv_at hl 0 rfl) ?_
  refine lv_iload (pc := 289) hx hb dL_law_289 (lv_at hl 4 rfl) ?_
  refine lv_iconst (v := 1) (pc := 291) hx hb dL_law_291 (by decide) ?_
  refine lv_iadd (pc := 292) hx hb dL_law_292 ?_
  refine lv_topi (fun v3 ev3 => ?_)
  obtain rfl : v3 = 1 := ev3.trans (by decide +kernel)
  refine va_sld (pc := 293) hx hb hX hbl hbA hW.2.2 (vp_in_nI (n := 1) (by decide) (by decide)) dL_law_293 ?_
  refine c_Vi (pc := 294) (As := [.int (xs (1 : Int32).toNatClampNeg)]) (rest := [.int (ev (xs (1 : Int32).toNatClampNeg))]) (wr := []) X hW 0 ciX12 rfl (C_X12_end l g m0 b1 b6 b7 b8 b9 b10 b11 b12 b13 b14 b15 b16 b17 b21 b22 b23 b24 b25 b26 b28 b29 b30 b31 b32 b33 b34 b35 b36 b46 b47 b48 b49 b50 b51 b52 b53 b54 b55 b56 b57 b58 b59 b60 b61 b62 b63 (xs (1 : Int32).toNatClampNeg)) vL_28 [0] [] rfl rfl rfl rfl rfl rfl hl.1 rfl (Nat.le_of_ble_eq_true rfl) ⟨Nat.le_of_ble_eq_true rfl, Nat.le_of_ble_eq_true rfl⟩ ⟨Nat.le_of_ble_eq_true rfl, Nat.le_of_ble_eq_true rfl⟩ dL_law_294 (fun r4 u9 H locs hq hW => ?_)
  obtain ⟨rfl, rfl⟩ := hq
  have hW : WD g (AL s) s _ _ [] := hW
  refine lv_icmp_eq (tgt := 1865) (pc := 297) hx hb dL_law_297 rfl (fun c5 => ?_) (fun c5 => absurd (rfl : ev (xs (1 : Int32).toNatClampNeg) = ev (xs (1 : Int32).toNatClampNeg)) c5)
  exact law_end X hr hX hbl ⟨Nat.le_of_ble_eq_true rfl, Nat.le_of_ble_eq_true rfl⟩ (hW.pick [] rfl rfl) (lv_sub hl [0, 4] rfl)

set_option maxHeartbeats 4000000 in
set_option maxRecDepth 100000 in
theorem law_2 {p : Program} {e : Env} {s : State} {m : MethodId} {below : List Frame} {meth : Method} {c : Code} {l : Launch} {b : Nat} {xs : Nat → Int32} {g : GG} {H : Heap} {locs : List Loc} {ls : Array Slot} {a0 a1 a10 a2 a3 a4 a5 a6 a7 a8 a9 b1 b10 b11 b12 b13 b14 b15 b16 b17 b21 b22 b23 b24 b25 b26 b28 b29 b30 b31 b32 b33 b34 b35 b36 b46 b47 b48 b49 b50 b51 b52 b53 b54 b55 b56 b57 b58 b59 b6 b60 b61 b62 b63 b7 b8 b9 d10 d11 d12 d13 d15 d3 d4 d5 d6 d7 d8 d9 m0 o0 tq x0 : Nat} (X : CTX p l m meth c cL_law 7 s #[Value.ref b] RL g (AL s)) (hr : meth.sig.returnType = ret) (hX : va_X b 6 xs s s.heap) (hbl : b < s.heap.size) (hW : WD g (AL s) s H locs [(x0, .inr (11, [.ref a0, .ref a1, .ref a2, .ref a3, .ref a4, .ref a5, .ref a6, .ref a7, .ref a8, .ref a9, .ref a10, .int 0, .int 0, .int 0])), (a0, .inr (8, [.ref tq, .int 0, .int 0])), (a10, .inr (10, [.int 0, .int 0, .int 0, .ref d3, .ref d4, .ref d5, .ref d6, .ref d7, .ref d8, .ref d9, .ref d10, .ref d11, .ref d12, .ref d13, .int (-2), .ref d15])), (d3, .inl (g.2.1 1, 4, .inl (fun _ => 0))), (d4, .inl (g.2.1 1, 4, .inl (fun _ => 0))), (d5, .inl (g.2.1 1, 4, .inl (fun _ => 0))), (m0, .inr (12, [.int 0, .ref b1, .int 0, .int 0, .int 0, .int 0, .ref b6, .ref b7, .ref b8, .ref b9, .ref b10, .ref b11, .ref b12, .ref b13, .ref b14, .ref b15, .ref b16, .ref b17, .int 0, .int (-1), .int (-1), .ref b21, .ref b22, .ref b23, .ref b24, .ref b25, .ref b26, .int 0, .ref b28, .ref b29, .ref b30, .ref b31, .ref b32, .ref b33, .ref b34, .ref b35, .ref b36, .int 0, .int 0, .int 0, .int 0, .int 0, .int 0, .int 0, .int 0, .int 0, .ref b46, .ref b47, .ref b48, .ref b49, .ref b50, .ref b51, .ref b52, .ref b53, .ref b54, .ref b55, .ref b56, .ref b57, .ref b58, .ref b59, .ref b60, .ref b61, .ref b62, .ref b63])), (b7, .inl (g.2.1 1, 11, .inl (fun _ => 0))), (b8, .inl (g.2.1 1, 11, .inl (fun _ => 0))), (b9, .inl (g.2.1 1, 44, .inl (fun _ => 0))), (b10, .inl (g.2.1 1, 44, .inl (fun _ => 0))), (b11, .inl (g.2.1 1, 44, .inl (fun _ => 0)))]) (hl : lv_has ls 7 [(0, .ref b), (1, .ref x0), (2, .ref m0), (3, .ref o0), (4, .int 0)]) : W p l e room_1 s m #[Value.ref b] below meth c H locs 97 615458 (lw_Z below #[Value.ref b] s) (F0 m 302 ls []) := by
  have hx := X.1
  have hb := X.2.1
  have hbA : ¬ (AL s) b := Nat.not_le.mpr hbl
  refine lv_aload_n (pc := 302) hx hb dL_law_302 rfl (lv_at hl 1 rfl) ?_
  refine c_Vi (pc := 303) (As := []) (rest := []) (wr := [(m0, .inr (12, [.int 0, .ref b1, .int 0, .int 0, .int 0, .int 0, .ref b6, .ref b7, .ref b8, .ref b9, .ref b10, .ref b11, .ref b12, .ref b13, .ref b14, .ref b15, .ref b16, .ref b17, .int 0, .int (-1), .int (-1), .ref b21, .ref b22, .ref b23, .ref b24, .ref b25, .ref b26, .int 0, .ref b28, .ref b29, .ref b30, .ref b31, .ref b32, .ref b33, .ref b34, .ref b35, .ref b36, .int 0, .int 0, .int 0, .int 0, .int 0, .int 0, .int 0, .int 0, .int 0, .ref b46, .ref b47, .ref b48, .ref b49, .ref b50, .ref b51, .ref b52, .ref b53, .ref b54, .ref b55, .ref b56, .ref b57, .ref b58, .ref b59, .ref b60, .ref b61, .ref b62, .ref b63])), (b7, .inl (g.2.1 1, 11, .inl (fun _ => 0))), (b8, .inl (g.2.1 1, 11, .inl (fun _ => 0))), (b9, .inl (g.2.1 1, 44, .inl (fun _ => 0))), (b10, .inl (g.2.1 1, 44, .inl (fun _ => 0))), (b11, .inl (g.2.1 1, 44, .inl (fun _ => 0)))]) X hW 0 ciX11 rfl (C_X11_fault l g x0 a0 a1 a2 a3 a4 a5 a6 a7 a8 a9 a10 tq d3 d4 d5 d6 d7 d8 d9 d10 d11 d12 d13 d15 (fun _ => 0) (fun _ => 0) (fun _ => 0)) vL_29 [0, 1, 2, 3, 4, 5] [6, 7, 8, 9, 10, 11] rfl rfl rfl rfl rfl rfl hl.1 rfl (Nat.le_of_ble_eq_true rfl) ⟨Nat.le_of_ble_eq_true rfl, Nat.le_of_ble_eq_true rfl⟩ ⟨Nat.le_of_ble_eq_true rfl, Nat.le_of_ble_eq_true rfl⟩ dL_law_303 (fun r1 u9 H locs hq hW => ?_)
  obtain ⟨rfl, rfl⟩ := hq
  have hW : WD g (AL s) s _ _ [(m0, .inr (12, [.int 0, .ref b1, .int 0, .int 0, .int 0, .int 0, .ref b6, .ref b7, .ref b8, .ref b9, .ref b10, .ref b11, .ref b12, .ref b13, .ref b14, .ref b15, .ref b16, .ref b17, .int 0, .int (-1), .int (-1), .ref b21, .ref b22, .ref b23, .ref b24, .ref b25, .ref b26, .int 0, .ref b28, .ref b29, .ref b30, .ref b31, .ref b32, .ref b33, .ref b34, .ref b35, .ref b36, .int 0, .int 0, .int 0, .int 0, .int 0, .int 0, .int 0, .int 0, .int 0, .ref b46, .ref b47, .ref b48, .ref b49, .ref b50, .ref b51, .ref b52, .ref b53, .ref b54, .ref b55, .ref b56, .ref b57, .ref b58, .ref b59, .ref b60, .ref b61, .ref b62, .ref b63])), (b7, .inl (g.2.1 1, 11, .inl (fun _ => 0))), (b8, .inl (g.2.1 1, 11, .inl (fun _ => 0))), (b9, .inl (g.2.1 1, 44, .inl (fun _ => 0))), (b10, .inl (g.2.1 1, 44, .inl (fun _ => 0))), (b11, .inl (g.2.1 1, 44, .inl (fun _ => 0)))] := hW
  refine lv_aload_n (pc := 306) hx hb dL_law_306 rfl (lv_at hl 2 rfl) ?_
  refine c_Vi (pc := 307) (As := []) (rest := [.int 0]) (wr := []) X hW 0 ciX12 rfl (C_X12_fault l g m0 b1 b6 b7 b8 b9 b10 b11 b12 b13 b14 b15 b16 b17 b21 b22 b23 b24 b25 b26 b28 b29 b30 b31 b32 b33 b34 b35 b36 b46 b47 b48 b49 b50 b51 b52 b53 b54 b55 b56 b57 b58 b59 b60 b61 b62 b63) vL_33 [0, 1, 2, 3, 4, 5] [] rfl rfl rfl rfl rfl rfl hl.1 rfl (Nat.le_of_ble_eq_true rfl) ⟨Nat.le_of_ble_eq_true rfl, Nat.le_of_ble_eq_true rfl⟩ ⟨Nat.le_of_ble_eq_true rfl, Nat.le_of_ble_eq_true rfl⟩ dL_law_307 (fun r2 u9 H locs hq hW => ?_)
  obtain ⟨rfl, rfl⟩ := hq
  have hW : WD g (AL s) s _ _ [] := hW
  refine lv_icmp_eq (tgt := 1865) (pc := 310) hx hb dL_law_310 rfl (fun c3 => ?_) (fun c3 => absurd (by decide) c3)
  exact law_end X hr hX hbl ⟨Nat.le_of_ble_eq_true rfl, Nat.le_of_ble_eq_true rfl⟩ (hW.pick [] rfl rfl) (lv_sub hl [0, 4] rfl)

set_option maxHeartbeats 4000000 in
set_option maxRecDepth 100000 in
theorem law_3 {p : Program} {e : Env} {s : State} {m : MethodId} {below : List Frame} {meth : Method} {c : Code} {l : Launch} {b : Nat} {xs : Nat → Int32} {g : GG} {H : Heap} {locs : List Loc} {ls : Array Slot} {a0 a1 a10 a2 a3 a4 a5 a6 a7 a8 a9 b1 b10 b11 b12 b13 b14 b15 b16 b17 b21 b22 b23 b24 b25 b26 b28 b29 b30 b31 b32 b33 b34 b35 b36 b46 b47 b48 b49 b50 b51 b52 b53 b54 b55 b56 b57 b58 b59 b6 b60 b61 b62 b63 b7 b8 b9 d10 d11 d12 d13 d15 d3 d4 d5 d6 d7 d8 d9 m0 o0 tq x0 : Nat} (X : CTX p l m meth c cL_law 7 s #[Value.ref b] RL g (AL s)) (hr : meth.sig.returnType = ret) (hX : va_X b 6 xs s s.heap) (hbl : b < s.heap.size) (hW : WD g (AL s) s H locs [(x0, .inr (11, [.ref a0, .ref a1, .ref a2, .ref a3, .ref a4, .ref a5, .ref a6, .ref a7, .ref a8, .ref a9, .ref a10, .int 0, .int 0, .int 0])), (a0, .inr (8, [.ref tq, .int 0, .int 0])), (a10, .inr (10, [.int 0, .int 0, .int 0, .ref d3, .ref d4, .ref d5, .ref d6, .ref d7, .ref d8, .ref d9, .ref d10, .ref d11, .ref d12, .ref d13, .int (-2), .ref d15])), (d3, .inl (g.2.1 1, 4, .inl (fun _ => 0))), (d4, .inl (g.2.1 1, 4, .inl (fun _ => 0))), (d5, .inl (g.2.1 1, 4, .inl (fun _ => 0))), (m0, .inr (12, [.int 0, .ref b1, .int 0, .int 0, .int 0, .int 0, .ref b6, .ref b7, .ref b8, .ref b9, .ref b10, .ref b11, .ref b12, .ref b13, .ref b14, .ref b15, .ref b16, .ref b17, .int 0, .int (-1), .int (-1), .ref b21, .ref b22, .ref b23, .ref b24, .ref b25, .ref b26, .int 0, .ref b28, .ref b29, .ref b30, .ref b31, .ref b32, .ref b33, .ref b34, .ref b35, .ref b36, .int 0, .int 0, .int 0, .int 0, .int 0, .int 0, .int 0, .int 0, .int 0, .ref b46, .ref b47, .ref b48, .ref b49, .ref b50, .ref b51, .ref b52, .ref b53, .ref b54, .ref b55, .ref b56, .ref b57, .ref b58, .ref b59, .ref b60, .ref b61, .ref b62, .ref b63])), (b7, .inl (g.2.1 1, 11, .inl (fun _ => 0))), (b8, .inl (g.2.1 1, 11, .inl (fun _ => 0))), (b9, .inl (g.2.1 1, 44, .inl (fun _ => 0))), (b10, .inl (g.2.1 1, 44, .inl (fun _ => 0))), (b11, .inl (g.2.1 1, 44, .inl (fun _ => 0)))]) (hl : lv_has ls 7 [(0, .ref b), (1, .ref x0), (2, .ref m0), (3, .ref o0), (4, .int 0)]) : W p l e room_1 s m #[Value.ref b] below meth c H locs 97 615458 (lw_Z below #[Value.ref b] s) (F0 m 315 ls []) := by
  have hx := X.1
  have hb := X.2.1
  have hbA : ¬ (AL s) b := Nat.not_le.mpr hbl
  refine lv_aload_n (pc := 315) hx hb dL_law_315 rfl (lv_at hl 1 rfl) ?_
  refine c_Vi (pc := 316) (As := []) (rest := []) (wr := [(m0, .inr (12, [.int 0, .ref b1, .int 0, .int 0, .int 0, .int 0, .ref b6, .ref b7, .ref b8, .ref b9, .ref b10, .ref b11, .ref b12, .ref b13, .ref b14, .ref b15, .ref b16, .ref b17, .int 0, .int (-1), .int (-1), .ref b21, .ref b22, .ref b23, .ref b24, .ref b25, .ref b26, .int 0, .ref b28, .ref b29, .ref b30, .ref b31, .ref b32, .ref b33, .ref b34, .ref b35, .ref b36, .int 0, .int 0, .int 0, .int 0, .int 0, .int 0, .int 0, .int 0, .int 0, .ref b46, .ref b47, .ref b48, .ref b49, .ref b50, .ref b51, .ref b52, .ref b53, .ref b54, .ref b55, .ref b56, .ref b57, .ref b58, .ref b59, .ref b60, .ref b61, .ref b62, .ref b63])), (b7, .inl (g.2.1 1, 11, .inl (fun _ => 0))), (b8, .inl (g.2.1 1, 11, .inl (fun _ => 0))), (b9, .inl (g.2.1 1, 44, .inl (fun _ => 0))), (b10, .inl (g.2.1 1, 44, .inl (fun _ => 0))), (b11, .inl (g.2.1 1, 44, .inl (fun _ => 0)))]) X hW 0 ciX11 rfl (C_X11_valley l g x0 a0 a1 a2 a3 a4 a5 a6 a7 a8 a9 a10 tq d3 d4 d5 d6 d7 d8 d9 d10 d11 d12 d13 d15 (fun _ => 0) (fun _ => 0) (fun _ => 0)) vL_34 [0, 1, 2, 3, 4, 5] [6, 7, 8, 9, 10, 11] rfl rfl rfl rfl rfl rfl hl.1 rfl (Nat.le_of_ble_eq_true rfl) ⟨Nat.le_of_ble_eq_true rfl, Nat.le_of_ble_eq_true rfl⟩ ⟨Nat.le_of_ble_eq_true rfl, Nat.le_of_ble_eq_true rfl⟩ dL_law_316 (fun r1 u9 H locs hq hW => ?_)
  obtain ⟨rfl, rfl⟩ := hq
  have hW : WD g (AL s) s _ _ [(m0, .inr (12, [.int 0, .ref b1, .int 0, .int 0, .int 0, .int 0, .ref b6, .ref b7, .ref b8, .ref b9, .ref b10, .ref b11, .ref b12, .ref b13, .ref b14, .ref b15, .ref b16, .ref b17, .int 0, .int (-1), .int (-1), .ref b21, .ref b22, .ref b23, .ref b24, .ref b25, .ref b26, .int 0, .ref b28, .ref b29, .ref b30, .ref b31, .ref b32, .ref b33, .ref b34, .ref b35, .ref b36, .int 0, .int 0, .int 0, .int 0, .int 0, .int 0, .int 0, .int 0, .int 0, .ref b46, .ref b47, .ref b48, .ref b49, .ref b50, .ref b51, .ref b52, .ref b53, .ref b54, .ref b55, .ref b56, .ref b57, .ref b58, .ref b59, .ref b60, .ref b61, .ref b62, .ref b63])), (b7, .inl (g.2.1 1, 11, .inl (fun _ => 0))), (b8, .inl (g.2.1 1, 11, .inl (fun _ => 0))), (b9, .inl (g.2.1 1, 44, .inl (fun _ => 0))), (b10, .inl (g.2.1 1, 44, .inl (fun _ => 0))), (b11, .inl (g.2.1 1, 44, .inl (fun _ => 0)))] := hW
  refine lv_aload_n (pc := 319) hx hb dL_law_319 rfl (lv_at hl 2 rfl) ?_
  refine c_Vi (pc := 320) (As := []) (rest := [.int (-1)]) (wr := []) X hW 0 ciX12 rfl (C_X12_valley l g m0 b1 b6 b7 b8 b9 b10 b11 b12 b13 b14 b15 b16 b17 b21 b22 b23 b24 b25 b26 b28 b29 b30 b31 b32 b33 b34 b35 b36 b46 b47 b48 b49 b50 b51 b52 b53 b54 b55 b56 b57 b58 b59 b60 b61 b62 b63) vL_37 [0, 1, 2, 3, 4, 5] [] rfl rfl rfl rfl rfl rfl hl.1 rfl (Nat.le_of_ble_eq_true rfl) ⟨Nat.le_of_ble_eq_true rfl, Nat.le_of_ble_eq_true rfl⟩ ⟨Nat.le_of_ble_eq_true rfl, Nat.le_of_ble_eq_true rfl⟩ dL_law_320 (fun r2 u9 H locs hq hW => ?_)
  obtain ⟨rfl, rfl⟩ := hq
  have hW : WD g (AL s) s _ _ [] := hW
  refine lv_icmp_eq (tgt := 1865) (pc := 323) hx hb dL_law_323 rfl (fun c3 => ?_) (fun c3 => absurd (by decide) c3)
  exact law_end X hr hX hbl ⟨Nat.le_of_ble_eq_true rfl, Nat.le_of_ble_eq_true rfl⟩ (hW.pick [] rfl rfl) (lv_sub hl [0, 4] rfl)

set_option maxHeartbeats 4000000 in
set_option maxRecDepth 100000 in
theorem law_4 {p : Program} {e : Env} {s : State} {m : MethodId} {below : List Frame} {meth : Method} {c : Code} {l : Launch} {b : Nat} {xs : Nat → Int32} {g : GG} {H : Heap} {locs : List Loc} {ls : Array Slot} {a0 a1 a10 a2 a3 a4 a5 a6 a7 a8 a9 b1 b10 b11 b12 b13 b14 b15 b16 b17 b21 b22 b23 b24 b25 b26 b28 b29 b30 b31 b32 b33 b34 b35 b36 b46 b47 b48 b49 b50 b51 b52 b53 b54 b55 b56 b57 b58 b59 b6 b60 b61 b62 b63 b7 b8 b9 m0 o0 x0 : Nat} (X : CTX p l m meth c cL_law 7 s #[Value.ref b] RL g (AL s)) (hr : meth.sig.returnType = ret) (hX : va_X b 6 xs s s.heap) (hbl : b < s.heap.size) (hW : WD g (AL s) s H locs [(x0, .inr (11, [.ref a0, .ref a1, .ref a2, .ref a3, .ref a4, .ref a5, .ref a6, .ref a7, .ref a8, .ref a9, .ref a10, .int 0, .int 0, .int 0])), (m0, .inr (12, [.int 0, .ref b1, .int 0, .int 0, .int 0, .int 0, .ref b6, .ref b7, .ref b8, .ref b9, .ref b10, .ref b11, .ref b12, .ref b13, .ref b14, .ref b15, .ref b16, .ref b17, .int 0, .int (-1), .int (-1), .ref b21, .ref b22, .ref b23, .ref b24, .ref b25, .ref b26, .int 0, .ref b28, .ref b29, .ref b30, .ref b31, .ref b32, .ref b33, .ref b34, .ref b35, .ref b36, .int 0, .int 0, .int 0, .int 0, .int 0, .int 0, .int 0, .int 0, .int 0, .ref b46, .ref b47, .ref b48, .ref b49, .ref b50, .ref b51, .ref b52, .ref b53, .ref b54, .ref b55, .ref b56, .ref b57, .ref b58, .ref b59, .ref b60, .ref b61, .ref b62, .ref b63]))]) (hl : lv_has ls 7 [(0, .ref b), (1, .ref x0), (2, .ref m0), (3, .ref o0), (4, .int 0)]) : W p l e room_1 s m #[Value.ref b] below meth c H locs 97 615458 (lw_Z below #[Value.ref b] s) (F0 m 328 ls []) := by
  have hx := X.1
  have hb := X.2.1
  have hbA : ¬ (AL s) b := Nat.not_le.mpr hbl
  refine lv_aload_n (pc := 328) hx hb dL_law_328 rfl (lv_at hl 1 rfl) ?_
  refine lv_aload_n (pc := 329) hx hb dL_law_329 rfl (lv_at hl 0 rfl) ?_
  refine lv_iload (pc := 330) hx hb dL_law_330 (lv_at hl 4 rfl) ?_
  refine lv_iconst (v := 1) (pc := 332) hx hb dL_law_332 (by decide) ?_
  refine lv_iadd (pc := 333) hx hb dL_law_333 ?_
  refine lv_topi (fun v1 ev1 => ?_)
  obtain rfl : v1 = 1 := ev1.trans (by decide +kernel)
  refine va_sld (pc := 334) hx hb hX hbl hbA hW.2.2 (vp_in_nI (n := 1) (by decide) (by decide)) dL_law_334 ?_
  refine lv_aload_n (pc := 335) hx hb dL_law_335 rfl (lv_at hl 0 rfl) ?_
  refine lv_iload (pc := 336) hx hb dL_law_336 (lv_at hl 4 rfl) ?_
  refine lv_iconst (v := 2) (pc := 338) hx hb dL_law_338 (by decide) ?_
  refine lv_iadd (pc := 339) hx hb dL_law_339 ?_
  refine lv_topi (fun v2 ev2 => ?_)
  obtain rfl : v2 = 2 := ev2.trans (by decide +kernel)
  refine va_sld (pc := 340) hx hb hX hbl hbA hW.2.2 (vp_in_nI (n := 2) (by decide) (by decide)) dL_law_340 ?_
  refine c_Vi (pc := 341) (As := [.int (xs (1 : Int32).toNatClampNeg), .int (xs (2 : Int32).toNatClampNeg)]) (rest := []) (wr := [(m0, .inr (12, [.int 0, .ref b1, .int 0, .int 0, .int 0, .int 0, .ref b6, .ref b7, .ref b8, .ref b9, .ref b10, .ref b11, .ref b12, .ref b13, .ref b14, .ref b15, .ref b16, .ref b17, .int 0, .int (-1), .int (-1), .ref b21, .ref b22, .ref b23, .ref b24, .ref b25, .ref b26, .int 0, .ref b28, .ref b29, .ref b30, .ref b31, .ref b32, .ref b33, .ref b34, .ref b35, .ref b36, .int 0, .int 0, .int 0, .int 0, .int 0, .int 0, .int 0, .int 0, .int 0, .ref b46, .ref b47, .ref b48, .ref b49, .ref b50, .ref b51, .ref b52, .ref b53, .ref b54, .ref b55, .ref b56, .ref b57, .ref b58, .ref b59, .ref b60, .ref b61, .ref b62, .ref b63]))]) X hW 0 ciX11 rfl (C_X11_told l g x0 a0 a1 a2 a3 a4 a5 a6 a7 a8 a9 a10 (xs (1 : Int32).toNatClampNeg) (xs (2 : Int32).toNatClampNeg)) vL_38 [0] [1] rfl rfl rfl rfl rfl rfl hl.1 rfl (Nat.le_of_ble_eq_true rfl) ⟨Nat.le_of_ble_eq_true rfl, Nat.le_of_ble_eq_true rfl⟩ ⟨Nat.le_of_ble_eq_true rfl, Nat.le_of_ble_eq_true rfl⟩ dL_law_341 (fun r3 u9 H locs hq hW => ?_)
  obtain ⟨rfl, rfl⟩ := hq
  have hW : WD g (AL s) s _ _ [(m0, .inr (12, [.int 0, .ref b1, .int 0, .int 0, .int 0, .int 0, .ref b6, .ref b7, .ref b8, .ref b9, .ref b10, .ref b11, .ref b12, .ref b13, .ref b14, .ref b15, .ref b16, .ref b17, .int 0, .int (-1), .int (-1), .ref b21, .ref b22, .ref b23, .ref b24, .ref b25, .ref b26, .int 0, .ref b28, .ref b29, .ref b30, .ref b31, .ref b32, .ref b33, .ref b34, .ref b35, .ref b36, .int 0, .int 0, .int 0, .int 0, .int 0, .int 0, .int 0, .int 0, .int 0, .ref b46, .ref b47, .ref b48, .ref b49, .ref b50, .ref b51, .ref b52, .ref b53, .ref b54, .ref b55, .ref b56, .ref b57, .ref b58, .ref b59, .ref b60, .ref b61, .ref b62, .ref b63])), (x0, .inr (11, [.ref a0, .ref a1, .ref a2, .ref a3, .ref a4, .ref a5, .ref a6, .ref a7, .ref a8, .ref a9, .ref a10, .int 0, .int 0, .int 0]))] := hW
  refine lv_aload_n (pc := 344) hx hb dL_law_344 rfl (lv_at hl 2 rfl) ?_
  refine lv_aload_n (pc := 345) hx hb dL_law_345 rfl (lv_at hl 0 rfl) ?_
  refine lv_iload (pc := 346) hx hb dL_law_346 (lv_at hl 4 rfl) ?_
  refine lv_iconst (v := 1) (pc := 348) hx hb dL_law_348 (by decide) ?_
  refine lv_iadd (pc := 349) hx hb dL_law_349 ?_
  refine lv_topi (fun v4 ev4 => ?_)
  obtain rfl : v4 = 1 := ev4.trans (by decide +kernel)
  refine va_sld (pc := 350) hx hb hX hbl hbA hW.2.2 (vp_in_nI (n := 1) (by decide) (by decide)) dL_law_350 ?_
  refine lv_aload_n (pc := 351) hx hb dL_law_351 rfl (lv_at hl 0 rfl) ?_
  refine lv_iload (pc := 352) hx hb dL_law_352 (lv_at hl 4 rfl) ?_
  refine lv_iconst (v := 2) (pc := 354) hx hb dL_law_354 (by decide) ?_
  refine lv_iadd (pc := 355) hx hb dL_law_355 ?_
  refine lv_topi (fun v5 ev5 => ?_)
  obtain rfl : v5 = 2 := ev5.trans (by decide +kernel)
  refine va_sld (pc := 356) hx hb hX hbl hbA hW.2.2 (vp_in_nI (n := 2) (by decide) (by decide)) dL_law_356 ?_
  refine c_Vi (pc := 357) (As := [.int (xs (1 : Int32).toNatClampNeg), .int (xs (2 : Int32).toNatClampNeg)]) (rest := [.int (-1)]) (wr := [(x0, .inr (11, [.ref a0, .ref a1, .ref a2, .ref a3, .ref a4, .ref a5, .ref a6, .ref a7, .ref a8, .ref a9, .ref a10, .int 0, .int 0, .int 0]))]) X hW 0 ciX12 rfl (C_X12_told l g m0 b1 b6 b7 b8 b9 b10 b11 b12 b13 b14 b15 b16 b17 b21 b22 b23 b24 b25 b26 b28 b29 b30 b31 b32 b33 b34 b35 b36 b46 b47 b48 b49 b50 b51 b52 b53 b54 b55 b56 b57 b58 b59 b60 b61 b62 b63 (xs (1 : Int32).toNatClampNeg) (xs (2 : Int32).toNatClampNeg)) vL_42 [0] [1] rfl rfl rfl rfl rfl rfl hl.1 rfl (Nat.le_of_ble_eq_true rfl) ⟨Nat.le_of_ble_eq_true rfl, Nat.le_of_ble_eq_true rfl⟩ ⟨Nat.le_of_ble_eq_true rfl, Nat.le_of_ble_eq_true rfl⟩ dL_law_357 (fun r6 u9 H locs hq hW => ?_)
  obtain ⟨rfl, rfl⟩ := hq
  have hW : WD g (AL s) s _ _ [(x0, .inr (11, [.ref a0, .ref a1, .ref a2, .ref a3, .ref a4, .ref a5, .ref a6, .ref a7, .ref a8, .ref a9, .ref a10, .int 0, .int 0, .int 0])), (m0, .inr (12, [.int 0, .ref b1, .int 0, .int 0, .int 0, .int 0, .ref b6, .ref b7, .ref b8, .ref b9, .ref b10, .ref b11, .ref b12, .ref b13, .ref b14, .ref b15, .ref b16, .ref b17, .int 0, .int (-1), .int (-1), .ref b21, .ref b22, .ref b23, .ref b24, .ref b25, .ref b26, .int 0, .ref b28, .ref b29, .ref b30, .ref b31, .ref b32, .ref b33, .ref b34, .ref b35, .ref b36, .int 0, .int 0, .int 0, .int 0, .int 0, .int 0, .int 0, .int 0, .int 0, .ref b46, .ref b47, .ref b48, .ref b49, .ref b50, .ref b51, .ref b52, .ref b53, .ref b54, .ref b55, .ref b56, .ref b57, .ref b58, .ref b59, .ref b60, .ref b61, .ref b62, .ref b63]))] := hW
  refine lv_icmp_eq (tgt := 1865) (pc := 360) hx hb dL_law_360 rfl (fun c7 => ?_) (fun c7 => absurd (by decide) c7)
  exact law_end X hr hX hbl ⟨Nat.le_of_ble_eq_true rfl, Nat.le_of_ble_eq_true rfl⟩ (hW.pick [] rfl rfl) (lv_sub hl [0, 4] rfl)

set_option maxHeartbeats 4000000 in
set_option maxRecDepth 100000 in
theorem law_5 {p : Program} {e : Env} {s : State} {m : MethodId} {below : List Frame} {meth : Method} {c : Code} {l : Launch} {b : Nat} {xs : Nat → Int32} {g : GG} {H : Heap} {locs : List Loc} {ls : Array Slot} {a0 a1 a10 a2 a3 a4 a5 a6 a7 a8 a9 b1 b10 b11 b12 b13 b14 b15 b16 b17 b21 b22 b23 b24 b25 b26 b28 b29 b30 b31 b32 b33 b34 b35 b36 b46 b47 b48 b49 b50 b51 b52 b53 b54 b55 b56 b57 b58 b59 b6 b60 b61 b62 b63 b7 b8 b9 m0 o0 x0 : Nat} (X : CTX p l m meth c cL_law 7 s #[Value.ref b] RL g (AL s)) (hr : meth.sig.returnType = ret) (hX : va_X b 6 xs s s.heap) (hbl : b < s.heap.size) (hfl : l.stackTraces = false) (hTh : THR (AL s) s s.heap) (hW : WD g (AL s) s H locs [(x0, .inr (11, [.ref a0, .ref a1, .ref a2, .ref a3, .ref a4, .ref a5, .ref a6, .ref a7, .ref a8, .ref a9, .ref a10, .int 0, .int 0, .int 0])), (o0, .inl (g.2.1 2, 1, .inr (.inl (fun _ => 0)))), (m0, .inr (12, [.int 0, .ref b1, .int 0, .int 0, .int 0, .int 0, .ref b6, .ref b7, .ref b8, .ref b9, .ref b10, .ref b11, .ref b12, .ref b13, .ref b14, .ref b15, .ref b16, .ref b17, .int 0, .int (-1), .int (-1), .ref b21, .ref b22, .ref b23, .ref b24, .ref b25, .ref b26, .int 0, .ref b28, .ref b29, .ref b30, .ref b31, .ref b32, .ref b33, .ref b34, .ref b35, .ref b36, .int 0, .int 0, .int 0, .int 0, .int 0, .int 0, .int 0, .int 0, .int 0, .ref b46, .ref b47, .ref b48, .ref b49, .ref b50, .ref b51, .ref b52, .ref b53, .ref b54, .ref b55, .ref b56, .ref b57, .ref b58, .ref b59, .ref b60, .ref b61, .ref b62, .ref b63]))]) (hl : lv_has ls 7 [(0, .ref b), (1, .ref x0), (2, .ref m0), (3, .ref o0), (4, .int 0)]) : W p l e room_1 s m #[Value.ref b] below meth c H locs 97 615458 (lw_Z below #[Value.ref b] s) (F0 m 365 ls []) := by
  have hx := X.1
  have hb := X.2.1
  have hbA : ¬ (AL s) b := Nat.not_le.mpr hbl
  refine lv_aload_n (pc := 365) hx hb dL_law_365 rfl (lv_at hl 1 rfl) ?_
  refine lv_aload_n (pc := 366) hx hb dL_law_366 rfl (lv_at hl 0 rfl) ?_
  refine lv_iload (pc := 367) hx hb dL_law_367 (lv_at hl 4 rfl) ?_
  refine lv_iconst (v := 1) (pc := 369) hx hb dL_law_369 (by decide) ?_
  refine lv_iadd (pc := 370) hx hb dL_law_370 ?_
  refine lv_topi (fun v1 ev1 => ?_)
  obtain rfl : v1 = 1 := ev1.trans (by decide +kernel)
  refine va_sld (pc := 371) hx hb hX hbl hbA hW.2.2 (vp_in_nI (n := 1) (by decide) (by decide)) dL_law_371 ?_
  refine lv_aload_n (pc := 372) hx hb dL_law_372 rfl (lv_at hl 0 rfl) ?_
  refine lv_iload (pc := 373) hx hb dL_law_373 (lv_at hl 4 rfl) ?_
  refine lv_iconst (v := 2) (pc := 375) hx hb dL_law_375 (by decide) ?_
  refine lv_iadd (pc := 376) hx hb dL_law_376 ?_
  refine lv_topi (fun v2 ev2 => ?_)
  obtain rfl : v2 = 2 := ev2.trans (by decide +kernel)
  refine va_sld (pc := 377) hx hb hX hbl hbA hW.2.2 (vp_in_nI (n := 2) (by decide) (by decide)) dL_law_377 ?_
  refine lv_aload_n (pc := 378) hx hb dL_law_378 rfl (lv_at hl 0 rfl) ?_
  refine lv_iload (pc := 379) hx hb dL_law_379 (lv_at hl 4 rfl) ?_
  refine lv_iconst (v := 3) (pc := 381) hx hb dL_law_381 (by decide) ?_
  refine lv_iadd (pc := 382) hx hb dL_law_382 ?_
  refine lv_topi (fun v3 ev3 => ?_)
  obtain rfl : v3 = 3 := ev3.trans (by decide +kernel)
  refine va_sld (pc := 383) hx hb hX hbl hbA hW.2.2 (vp_in_nI (n := 3) (by decide) (by decide)) dL_law_383 ?_
  refine lv_aload_n (pc := 384) hx hb dL_law_384 rfl (lv_at hl 3 rfl) ?_
  have hF : ∀ q, va_A [(x0, .inr (11, [.ref a0, .ref a1, .ref a2, .ref a3, .ref a4, .ref a5, .ref a6, .ref a7, .ref a8, .ref a9, .ref a10, .int 0, .int 0, .int 0])), (o0, .inl (g.2.1 2, 1, .inr (.inl (fun _ => 0))))] H.size q → (AL s) q := va_free hW.2.1 hW.2.2 X.2.2.2.2.2.2.2.1 [0, 1] rfl
  refine va_calli (pc := 385) (vx_runSW (As := [.ref x0, .int (xs (1 : Int32).toNatClampNeg), .int (xs (2 : Int32).toNatClampNeg), .int (xs (3 : Int32).toNatClampNeg), .ref o0]) (rest := []) (hh := [(0, 12, 15, 13)]) ⟨X.1, X.2.1, X.2.2.1, X.2.2.2.1, X.2.2.2.2.1⟩ (C_L_line l hfl g x0 a0 a1 a2 a3 a4 a5 a6 a7 a8 a9 a10 o0 (xs (1 : Int32).toNatClampNeg) (xs (2 : Int32).toNatClampNeg) (xs (3 : Int32).toNatClampNeg) H.size) (vx_cwSW 5 X.2.2.2.2.1 (good_in fun w hw => by
      rcases List.mem_append.mp hw with hw | hw
      · simp only [List.mem_cons, List.not_mem_nil, or_false] at hw
        rcases hw with rfl | rfl | rfl
        · exact m_1153
        · exact m_1154
        · exact m_0
      · rcases List.mem_cons.mp hw with rfl | hw
        · exact m_lline
        · exact hw) rfl rfl rfl ⟨by decide, by decide, by decide +kernel⟩ ⟨Nat.le_of_ble_eq_true rfl, Nat.le_of_ble_eq_true rfl⟩) ⟨PREX.blind, fun U hU hWm => ⟨rfl, k_pre X hW [0, 1] rfl rfl U hU hWm, hTh.pre hW hF hU hWm⟩⟩ rfl rfl hl.1 rfl (lv_room (Nat.le_of_ble_eq_true rfl)) dL_law_385 ⟨Nat.le_of_ble_eq_true rfl, Nat.le_of_ble_eq_true rfl⟩) hW.2.2 (fun q _ h => hF q h) hF (fun r u9 t H1 locs1 ht _ hp hB _ hk1 hS => ?_)
  obtain ⟨rfl, rfl⟩ := hp
  have hW := k_back (wr := [(m0, .inr (12, [.int 0, .ref b1, .int 0, .int 0, .int 0, .int 0, .ref b6, .ref b7, .ref b8, .ref b9, .ref b10, .ref b11, .ref b12, .ref b13, .ref b14, .ref b15, .ref b16, .ref b17, .int 0, .int (-1), .int (-1), .ref b21, .ref b22, .ref b23, .ref b24, .ref b25, .ref b26, .int 0, .ref b28, .ref b29, .ref b30, .ref b31, .ref b32, .ref b33, .ref b34, .ref b35, .ref b36, .int 0, .int 0, .int 0, .int 0, .int 0, .int 0, .int 0, .int 0, .int 0, .ref b46, .ref b47, .ref b48, .ref b49, .ref b50, .ref b51, .ref b52, .ref b53, .ref b54, .ref b55, .ref b56, .ref b57, .ref b58, .ref b59, .ref b60, .ref b61, .ref b62, .ref b63]))]) X hW [0, 1] [2] rfl rfl rfl rfl ht hB hk1 hS
  have hW : WD g (AL s) s _ _ [(m0, .inr (12, [.int 0, .ref b1, .int 0, .int 0, .int 0, .int 0, .ref b6, .ref b7, .ref b8, .ref b9, .ref b10, .ref b11, .ref b12, .ref b13, .ref b14, .ref b15, .ref b16, .ref b17, .int 0, .int (-1), .int (-1), .ref b21, .ref b22, .ref b23, .ref b24, .ref b25, .ref b26, .int 0, .ref b28, .ref b29, .ref b30, .ref b31, .ref b32, .ref b33, .ref b34, .ref b35, .ref b36, .int 0, .int 0, .int 0, .int 0, .int 0, .int 0, .int 0, .int 0, .int 0, .ref b46, .ref b47, .ref b48, .ref b49, .ref b50, .ref b51, .ref b52, .ref b53, .ref b54, .ref b55, .ref b56, .ref b57, .ref b58, .ref b59, .ref b60, .ref b61, .ref b62, .ref b63]))] := hW
  refine lv_istore (lv' := [(5, .int 1), (0, .ref b), (1, .ref x0), (2, .ref m0), (3, .ref o0), (4, .int 0)]) (pc := 388) hx hb dL_law_388 hl (by decide) rfl (fun ls hl => ?_)
  refine lv_aload_n (pc := 390) hx hb dL_law_390 rfl (lv_at hl 3 rfl) ?_
  refine lv_aload_n (pc := 391) hx hb dL_law_391 rfl (lv_at hl 1 rfl) ?_
  refine lv_iload (pc := 392) hx hb dL_law_392 (lv_at hl 5 rfl) ?_
  refine lv_iconst (v := 1) (pc := 394) hx hb dL_law_394 (by decide) ?_
  refine lv_iadd (pc := 395) hx hb dL_law_395 ?_
  refine lv_topi (fun v4 ev4 => ?_)
  obtain rfl : v4 = 1 := ev4.trans (by decide +kernel)
  refine va_sld (pc := 396) hx hb hX hbl hbA hW.2.2 (vp_in_nI (n := 1) (by decide) (by decide)) dL_law_396 ?_
  refine lv_aload_n (pc := 397) hx hb dL_law_397 rfl (lv_at hl 1 rfl) ?_
  refine lv_iload (pc := 398) hx hb dL_law_398 (lv_at hl 5 rfl) ?_
  refine lv_iconst (v := 2) (pc := 400) hx hb dL_law_400 (by decide) ?_
  refine lv_iadd (pc := 401) hx hb dL_law_401 ?_
  refine lv_topi (fun v5 ev5 => ?_)
  obtain rfl : v5 = 2 := ev5.trans (by decide +kernel)
  refine va_sld (pc := 402) hx hb hX hbl hbA hW.2.2 (vp_in_nI (n := 2) (by decide) (by decide)) dL_law_402 ?_
  refine lv_aload_n (pc := 403) hx hb dL_law_403 rfl (lv_at hl 1 rfl) ?_
  refine lv_iload (pc := 404) hx hb dL_law_404 (lv_at hl 5 rfl) ?_
  refine lv_iconst (v := 3) (pc := 406) hx hb dL_law_406 (by decide) ?_
  refine lv_iadd (pc := 407) hx hb dL_law_407 ?_
  refine lv_topi (fun v6 ev6 => ?_)
  obtain rfl : v6 = 3 := ev6.trans (by decide +kernel)
  refine va_sld (pc := 408) hx hb hX hbl hbA hW.2.2 (vp_in_nI (n := 3) (by decide) (by decide)) dL_law_408 ?_
  refine c_Vi (pc := 409) (As := [.int (xs (1 : Int32).toNatClampNeg), .int (xs (2 : Int32).toNatClampNeg), .int (xs (3 : Int32).toNatClampNeg)]) (rest := []) (wr := []) X hW 0 ciX12 rfl (C_X12_line l g m0 b1 b6 b7 b8 b9 b10 b11 b12 b13 b14 b15 b16 b17 b21 b22 b23 b24 b25 b26 b28 b29 b30 b31 b32 b33 b34 b35 b36 b46 b47 b48 b49 b50 b51 b52 b53 b54 b55 b56 b57 b58 b59 b60 b61 b62 b63 (xs (1 : Int32).toNatClampNeg) (xs (2 : Int32).toNatClampNeg) (xs (3 : Int32).toNatClampNeg)) vL_48 [0] [] rfl rfl rfl rfl rfl rfl hl.1 rfl (Nat.le_of_ble_eq_true rfl) ⟨Nat.le_of_ble_eq_true rfl, Nat.le_of_ble_eq_true rfl⟩ ⟨Nat.le_of_ble_eq_true rfl, Nat.le_of_ble_eq_true rfl⟩ dL_law_409 (fun r7 u9 H locs hq hW => ?_)
  obtain ⟨rfl, rfl⟩ := hq
  have hW : WD g (AL s) s _ _ [(m0, .inr (12, [.int 1, .ref b1, .int 0, .int 0, .int 0, .int 0, .ref b6, .ref b7, .ref b8, .ref b9, .ref b10, .ref b11, .ref b12, .ref b13, .ref b14, .ref b15, .ref b16, .ref b17, .int 0, .int (-1), .int (-1), .ref b21, .ref b22, .ref b23, .ref b24, .ref b25, .ref b26, .int 0, .ref b28, .ref b29, .ref b30, .ref b31, .ref b32, .ref b33, .ref b34, .ref b35, .ref b36, .int 0, .int 0, .int 0, .int 0, .int 0, .int 0, .int 0, .int 0, .int 0, .ref b46, .ref b47, .ref b48, .ref b49, .ref b50, .ref b51, .ref b52, .ref b53, .ref b54, .ref b55, .ref b56, .ref b57, .ref b58, .ref b59, .ref b60, .ref b61, .ref b62, .ref b63]))] := hW
  refine lv_istore (lv' := [(6, .int 0), (5, .int 1), (0, .ref b), (1, .ref x0), (2, .ref m0), (3, .ref o0), (4, .int 0)]) (pc := 412) hx hb dL_law_412 hl (by decide) rfl (fun ls hl => ?_)
  refine lv_aload_n (pc := 414) hx hb dL_law_414 rfl (lv_at hl 4 rfl) ?_
  refine c_Vi (pc := 415) (As := []) (rest := []) (wr := []) X hW 0 ciX12 rfl (C_X12_thrown l g m0 b1 b6 b7 b8 b9 b10 b11 b12 b13 b14 b15 b16 b17 b21 b22 b23 b24 b25 b26 b28 b29 b30 b31 b32 b33 b34 b35 b36 b46 b47 b48 b49 b50 b51 b52 b53 b54 b55 b56 b57 b58 b59 b60 b61 b62 b63) vL_49 [0] [] rfl rfl rfl rfl rfl rfl hl.1 rfl (Nat.le_of_ble_eq_true rfl) ⟨Nat.le_of_ble_eq_true rfl, Nat.le_of_ble_eq_true rfl⟩ ⟨Nat.le_of_ble_eq_true rfl, Nat.le_of_ble_eq_true rfl⟩ dL_law_415 (fun r8 u9 H locs hq hW => ?_)
  obtain ⟨rfl, rfl⟩ := hq
  have hW : WD g (AL s) s _ _ [(m0, .inr (12, [.int 1, .ref b1, .int 0, .int 0, .int 0, .int 0, .ref b6, .ref b7, .ref b8, .ref b9, .ref b10, .ref b11, .ref b12, .ref b13, .ref b14, .ref b15, .ref b16, .ref b17, .int 0, .int (-1), .int (-1), .ref b21, .ref b22, .ref b23, .ref b24, .ref b25, .ref b26, .int 0, .ref b28, .ref b29, .ref b30, .ref b31, .ref b32, .ref b33, .ref b34, .ref b35, .ref b36, .int 0, .int 0, .int 0, .int 0, .int 0, .int 0, .int 0, .int 0, .int 0, .ref b46, .ref b47, .ref b48, .ref b49, .ref b50, .ref b51, .ref b52, .ref b53, .ref b54, .ref b55, .ref b56, .ref b57, .ref b58, .ref b59, .ref b60, .ref b61, .ref b62, .ref b63]))] := hW
  refine lv_iload (pc := 418) hx hb dL_law_418 (lv_at hl 1 rfl) ?_
  refine lv_icmp_eq (tgt := 425) (pc := 420) hx hb dL_law_420 rfl (fun c9 => ?_) (fun c9 => absurd (by decide) c9)
  refine lv_iload (pc := 425) hx hb dL_law_425 (lv_at hl 1 rfl) ?_
  refine lv_if_ne (tgt := 442) (pc := 427) hx hb dL_law_427 rfl (fun c10 => ?_) (fun c10 => absurd c10 (by decide))
  refine lv_goto (tgt := 1865) (pc := 442) hx hb dL_law_442 rfl ?_
  exact law_end X hr hX hbl ⟨Nat.le_of_ble_eq_true rfl, Nat.le_of_ble_eq_true rfl⟩ (hW.pick [] rfl rfl) (lv_sub hl [2, 6] rfl)

set_option maxHeartbeats 4000000 in
set_option maxRecDepth 100000 in
theorem law_6 {p : Program} {e : Env} {s : State} {m : MethodId} {below : List Frame} {meth : Method} {c : Code} {l : Launch} {b : Nat} {xs : Nat → Int32} {g : GG} {H : Heap} {locs : List Loc} {ls : Array Slot} {a0 a1 a10 a2 a3 a4 a5 a6 a7 a8 a9 b1 b10 b11 b12 b13 b14 b15 b16 b17 b21 b22 b23 b24 b25 b26 b28 b29 b30 b31 b32 b33 b34 b35 b36 b46 b47 b48 b49 b50 b51 b52 b53 b54 b55 b56 b57 b58 b59 b6 b60 b61 b62 b63 b7 b8 b9 m0 o0 x0 : Nat} (X : CTX p l m meth c cL_law 7 s #[Value.ref b] RL g (AL s)) (hr : meth.sig.returnType = ret) (hX : va_X b 6 xs s s.heap) (hbl : b < s.heap.size) (hW : WD g (AL s) s H locs [(x0, .inr (11, [.ref a0, .ref a1, .ref a2, .ref a3, .ref a4, .ref a5, .ref a6, .ref a7, .ref a8, .ref a9, .ref a10, .int 0, .int 0, .int 0])), (m0, .inr (12, [.int 0, .ref b1, .int 0, .int 0, .int 0, .int 0, .ref b6, .ref b7, .ref b8, .ref b9, .ref b10, .ref b11, .ref b12, .ref b13, .ref b14, .ref b15, .ref b16, .ref b17, .int 0, .int (-1), .int (-1), .ref b21, .ref b22, .ref b23, .ref b24, .ref b25, .ref b26, .int 0, .ref b28, .ref b29, .ref b30, .ref b31, .ref b32, .ref b33, .ref b34, .ref b35, .ref b36, .int 0, .int 0, .int 0, .int 0, .int 0, .int 0, .int 0, .int 0, .int 0, .ref b46, .ref b47, .ref b48, .ref b49, .ref b50, .ref b51, .ref b52, .ref b53, .ref b54, .ref b55, .ref b56, .ref b57, .ref b58, .ref b59, .ref b60, .ref b61, .ref b62, .ref b63]))]) (hl : lv_has ls 7 [(0, .ref b), (1, .ref x0), (2, .ref m0), (3, .ref o0), (4, .int 0)]) : W p l e room_1 s m #[Value.ref b] below meth c H locs 97 615458 (lw_Z below #[Value.ref b] s) (F0 m 445 ls []) := by
  have hx := X.1
  have hb := X.2.1
  have hbA : ¬ (AL s) b := Nat.not_le.mpr hbl
  refine lv_aload_n (pc := 445) hx hb dL_law_445 rfl (lv_at hl 1 rfl) ?_
  refine lv_aload_n (pc := 446) hx hb dL_law_446 rfl (lv_at hl 0 rfl) ?_
  refine lv_iload (pc := 447) hx hb dL_law_447 (lv_at hl 4 rfl) ?_
  refine lv_iconst (v := 1) (pc := 449) hx hb dL_law_449 (by decide) ?_
  refine lv_iadd (pc := 450) hx hb dL_law_450 ?_
  refine lv_topi (fun v1 ev1 => ?_)
  obtain rfl : v1 = 1 := ev1.trans (by decide +kernel)
  refine va_sld (pc := 451) hx hb hX hbl hbA hW.2.2 (vp_in_nI (n := 1) (by decide) (by decide)) dL_law_451 ?_
  refine lv_aload_n (pc := 452) hx hb dL_law_452 rfl (lv_at hl 0 rfl) ?_
  refine lv_iload (pc := 453) hx hb dL_law_453 (lv_at hl 4 rfl) ?_
  refine lv_iconst (v := 2) (pc := 455) hx hb dL_law_455 (by decide) ?_
  refine lv_iadd (pc := 456) hx hb dL_law_456 ?_
  refine lv_topi (fun v2 ev2 => ?_)
  obtain rfl : v2 = 2 := ev2.trans (by decide +kernel)
  refine va_sld (pc := 457) hx hb hX hbl hbA hW.2.2 (vp_in_nI (n := 2) (by decide) (by decide)) dL_law_457 ?_
  refine lv_aload_n (pc := 458) hx hb dL_law_458 rfl (lv_at hl 0 rfl) ?_
  refine lv_iload (pc := 459) hx hb dL_law_459 (lv_at hl 4 rfl) ?_
  refine lv_iconst (v := 3) (pc := 461) hx hb dL_law_461 (by decide) ?_
  refine lv_iadd (pc := 462) hx hb dL_law_462 ?_
  refine lv_topi (fun v3 ev3 => ?_)
  obtain rfl : v3 = 3 := ev3.trans (by decide +kernel)
  refine va_sld (pc := 463) hx hb hX hbl hbA hW.2.2 (vp_in_nI (n := 3) (by decide) (by decide)) dL_law_463 ?_
  refine c_Vi (pc := 464) (As := [.int (xs (1 : Int32).toNatClampNeg), .int (xs (2 : Int32).toNatClampNeg), .int (xs (3 : Int32).toNatClampNeg)]) (rest := []) (wr := [(m0, .inr (12, [.int 0, .ref b1, .int 0, .int 0, .int 0, .int 0, .ref b6, .ref b7, .ref b8, .ref b9, .ref b10, .ref b11, .ref b12, .ref b13, .ref b14, .ref b15, .ref b16, .ref b17, .int 0, .int (-1), .int (-1), .ref b21, .ref b22, .ref b23, .ref b24, .ref b25, .ref b26, .int 0, .ref b28, .ref b29, .ref b30, .ref b31, .ref b32, .ref b33, .ref b34, .ref b35, .ref b36, .int 0, .int 0, .int 0, .int 0, .int 0, .int 0, .int 0, .int 0, .int 0, .ref b46, .ref b47, .ref b48, .ref b49, .ref b50, .ref b51, .ref b52, .ref b53, .ref b54, .ref b55, .ref b56, .ref b57, .ref b58, .ref b59, .ref b60, .ref b61, .ref b62, .ref b63]))]) X hW 0 ciX11 rfl (C_X11_down l g x0 a0 a1 a2 a3 a4 a5 a6 a7 a8 a9 a10 (xs (1 : Int32).toNatClampNeg) (xs (2 : Int32).toNatClampNeg) (xs (3 : Int32).toNatClampNeg)) vL_52 [0] [1] rfl rfl rfl rfl rfl rfl hl.1 rfl (Nat.le_of_ble_eq_true rfl) ⟨Nat.le_of_ble_eq_true rfl, Nat.le_of_ble_eq_true rfl⟩ ⟨Nat.le_of_ble_eq_true rfl, Nat.le_of_ble_eq_true rfl⟩ dL_law_464 (fun r4 u9 H locs hq hW => ?_)
  obtain ⟨rfl, rfl⟩ := hq
  have hW : WD g (AL s) s _ _ [(m0, .inr (12, [.int 0, .ref b1, .int 0, .int 0, .int 0, .int 0, .ref b6, .ref b7, .ref b8, .ref b9, .ref b10, .ref b11, .ref b12, .ref b13, .ref b14, .ref b15, .ref b16, .ref b17, .int 0, .int (-1), .int (-1), .ref b21, .ref b22, .ref b23, .ref b24, .ref b25, .ref b26, .int 0, .ref b28, .ref b29, .ref b30, .ref b31, .ref b32, .ref b33, .ref b34, .ref b35, .ref b36, .int 0, .int 0, .int 0, .int 0, .int 0, .int 0, .int 0, .int 0, .int 0, .ref b46, .ref b47, .ref b48, .ref b49, .ref b50, .ref b51, .ref b52, .ref b53, .ref b54, .ref b55, .ref b56, .ref b57, .ref b58, .ref b59, .ref b60, .ref b61, .ref b62, .ref b63])), (x0, .inr (11, [.ref a0, .ref a1, .ref a2, .ref a3, .ref a4, .ref a5, .ref a6, .ref a7, .ref a8, .ref a9, .ref a10, .int 0, .int 0, .int 0]))] := hW
  refine lv_aload_n (pc := 467) hx hb dL_law_467 rfl (lv_at hl 2 rfl) ?_
  refine lv_aload_n (pc := 468) hx hb dL_law_468 rfl (lv_at hl 0 rfl) ?_
  refine lv_iload (pc := 469) hx hb dL_law_469 (lv_at hl 4 rfl) ?_
  refine lv_iconst (v := 1) (pc := 471) hx hb dL_law_471 (by decide) ?_
  refine lv_iadd (pc := 472) hx hb dL_law_472 ?_
  refine lv_topi (fun v5 ev5 => ?_)
  obtain rfl : v5 = 1 := ev5.trans (by decide +kernel)
  refine va_sld (pc := 473) hx hb hX hbl hbA hW.2.2 (vp_in_nI (n := 1) (by decide) (by decide)) dL_law_473 ?_
  refine lv_aload_n (pc := 474) hx hb dL_law_474 rfl (lv_at hl 0 rfl) ?_
  refine lv_iload (pc := 475) hx hb dL_law_475 (lv_at hl 4 rfl) ?_
  refine lv_iconst (v := 2) (pc := 477) hx hb dL_law_477 (by decide) ?_
  refine lv_iadd (pc := 478) hx hb dL_law_478 ?_
  refine lv_topi (fun v6 ev6 => ?_)
  obtain rfl : v6 = 2 := ev6.trans (by decide +kernel)
  refine va_sld (pc := 479) hx hb hX hbl hbA hW.2.2 (vp_in_nI (n := 2) (by decide) (by decide)) dL_law_479 ?_
  refine lv_aload_n (pc := 480) hx hb dL_law_480 rfl (lv_at hl 0 rfl) ?_
  refine lv_iload (pc := 481) hx hb dL_law_481 (lv_at hl 4 rfl) ?_
  refine lv_iconst (v := 3) (pc := 483) hx hb dL_law_483 (by decide) ?_
  refine lv_iadd (pc := 484) hx hb dL_law_484 ?_
  refine lv_topi (fun v7 ev7 => ?_)
  obtain rfl : v7 = 3 := ev7.trans (by decide +kernel)
  refine va_sld (pc := 485) hx hb hX hbl hbA hW.2.2 (vp_in_nI (n := 3) (by decide) (by decide)) dL_law_485 ?_
  refine c_Vi (pc := 486) (As := [.int (xs (1 : Int32).toNatClampNeg), .int (xs (2 : Int32).toNatClampNeg), .int (xs (3 : Int32).toNatClampNeg)]) (rest := [.int 0]) (wr := [(x0, .inr (11, [.ref a0, .ref a1, .ref a2, .ref a3, .ref a4, .ref a5, .ref a6, .ref a7, .ref a8, .ref a9, .ref a10, .int 0, .int 0, .int 0]))]) X hW 0 ciX12 rfl (C_X12_down l g m0 b1 b6 b7 b8 b9 b10 b11 b12 b13 b14 b15 b16 b17 b21 b22 b23 b24 b25 b26 b28 b29 b30 b31 b32 b33 b34 b35 b36 b46 b47 b48 b49 b50 b51 b52 b53 b54 b55 b56 b57 b58 b59 b60 b61 b62 b63 (xs (1 : Int32).toNatClampNeg) (xs (2 : Int32).toNatClampNeg) (xs (3 : Int32).toNatClampNeg)) vL_56 [0] [1] rfl rfl rfl rfl rfl rfl hl.1 rfl (Nat.le_of_ble_eq_true rfl) ⟨Nat.le_of_ble_eq_true rfl, Nat.le_of_ble_eq_true rfl⟩ ⟨Nat.le_of_ble_eq_true rfl, Nat.le_of_ble_eq_true rfl⟩ dL_law_486 (fun r8 u9 H locs hq hW => ?_)
  obtain ⟨rfl, rfl⟩ := hq
  have hW : WD g (AL s) s _ _ [(x0, .inr (11, [.ref a0, .ref a1, .ref a2, .ref a3, .ref a4, .ref a5, .ref a6, .ref a7, .ref a8, .ref a9, .ref a10, .int 0, .int 0, .int 0])), (m0, .inr (12, [.int 0, .ref b1, .int 0, .int 0, .int 0, .int 0, .ref b6, .ref b7, .ref b8, .ref b9, .ref b10, .ref b11, .ref b12, .ref b13, .ref b14, .ref b15, .ref b16, .ref b17, .int 0, .int (-1), .int (-1), .ref b21, .ref b22, .ref b23, .ref b24, .ref b25, .ref b26, .int 0, .ref b28, .ref b29, .ref b30, .ref b31, .ref b32, .ref b33, .ref b34, .ref b35, .ref b36, .int 0, .int 0, .int 0, .int 0, .int 0, .int 0, .int 0, .int 0, .int 0, .ref b46, .ref b47, .ref b48, .ref b49, .ref b50, .ref b51, .ref b52, .ref b53, .ref b54, .ref b55, .ref b56, .ref b57, .ref b58, .ref b59, .ref b60, .ref b61, .ref b62, .ref b63]))] := hW
  refine lv_icmp_eq (tgt := 1865) (pc := 489) hx hb dL_law_489 rfl (fun c9 => ?_) (fun c9 => absurd (by decide) c9)
  exact law_end X hr hX hbl ⟨Nat.le_of_ble_eq_true rfl, Nat.le_of_ble_eq_true rfl⟩ (hW.pick [] rfl rfl) (lv_sub hl [0, 4] rfl)

set_option maxHeartbeats 4000000 in
set_option maxRecDepth 100000 in
theorem law_7 {p : Program} {e : Env} {s : State} {m : MethodId} {below : List Frame} {meth : Method} {c : Code} {l : Launch} {b : Nat} {xs : Nat → Int32} {g : GG} {H : Heap} {locs : List Loc} {ls : Array Slot} {a0 a1 a10 a2 a3 a4 a5 a6 a7 a8 a9 b1 b10 b11 b12 b13 b14 b15 b16 b17 b21 b22 b23 b24 b25 b26 b28 b29 b30 b31 b32 b33 b34 b35 b36 b46 b47 b48 b49 b50 b51 b52 b53 b54 b55 b56 b57 b58 b59 b6 b60 b61 b62 b63 b7 b8 b9 m0 o0 x0 : Nat} (X : CTX p l m meth c cL_law 7 s #[Value.ref b] RL g (AL s)) (hr : meth.sig.returnType = ret) (hX : va_X b 6 xs s s.heap) (hbl : b < s.heap.size) (hW : WD g (AL s) s H locs [(x0, .inr (11, [.ref a0, .ref a1, .ref a2, .ref a3, .ref a4, .ref a5, .ref a6, .ref a7, .ref a8, .ref a9, .ref a10, .int 0, .int 0, .int 0])), (m0, .inr (12, [.int 0, .ref b1, .int 0, .int 0, .int 0, .int 0, .ref b6, .ref b7, .ref b8, .ref b9, .ref b10, .ref b11, .ref b12, .ref b13, .ref b14, .ref b15, .ref b16, .ref b17, .int 0, .int (-1), .int (-1), .ref b21, .ref b22, .ref b23, .ref b24, .ref b25, .ref b26, .int 0, .ref b28, .ref b29, .ref b30, .ref b31, .ref b32, .ref b33, .ref b34, .ref b35, .ref b36, .int 0, .int 0, .int 0, .int 0, .int 0, .int 0, .int 0, .int 0, .int 0, .ref b46, .ref b47, .ref b48, .ref b49, .ref b50, .ref b51, .ref b52, .ref b53, .ref b54, .ref b55, .ref b56, .ref b57, .ref b58, .ref b59, .ref b60, .ref b61, .ref b62, .ref b63]))]) (hl : lv_has ls 7 [(0, .ref b), (1, .ref x0), (2, .ref m0), (3, .ref o0), (4, .int 0)]) : W p l e room_1 s m #[Value.ref b] below meth c H locs 97 615458 (lw_Z below #[Value.ref b] s) (F0 m 494 ls []) := by
  have hx := X.1
  have hb := X.2.1
  have hbA : ¬ (AL s) b := Nat.not_le.mpr hbl
  refine lv_aload_n (pc := 494) hx hb dL_law_494 rfl (lv_at hl 1 rfl) ?_
  refine lv_aload_n (pc := 495) hx hb dL_law_495 rfl (lv_at hl 0 rfl) ?_
  refine lv_iload (pc := 496) hx hb dL_law_496 (lv_at hl 4 rfl) ?_
  refine lv_iconst (v := 1) (pc := 498) hx hb dL_law_498 (by decide) ?_
  refine lv_iadd (pc := 499) hx hb dL_law_499 ?_
  refine lv_topi (fun v1 ev1 => ?_)
  obtain rfl : v1 = 1 := ev1.trans (by decide +kernel)
  refine va_sld (pc := 500) hx hb hX hbl hbA hW.2.2 (vp_in_nI (n := 1) (by decide) (by decide)) dL_law_500 ?_
  refine lv_aload_n (pc := 501) hx hb dL_law_501 rfl (lv_at hl 0 rfl) ?_
  refine lv_iload (pc := 502) hx hb dL_law_502 (lv_at hl 4 rfl) ?_
  refine lv_iconst (v := 2) (pc := 504) hx hb dL_law_504 (by decide) ?_
  refine lv_iadd (pc := 505) hx hb dL_law_505 ?_
  refine lv_topi (fun v2 ev2 => ?_)
  obtain rfl : v2 = 2 := ev2.trans (by decide +kernel)
  refine va_sld (pc := 506) hx hb hX hbl hbA hW.2.2 (vp_in_nI (n := 2) (by decide) (by decide)) dL_law_506 ?_
  refine lv_aload_n (pc := 507) hx hb dL_law_507 rfl (lv_at hl 0 rfl) ?_
  refine lv_iload (pc := 508) hx hb dL_law_508 (lv_at hl 4 rfl) ?_
  refine lv_iconst (v := 3) (pc := 510) hx hb dL_law_510 (by decide) ?_
  refine lv_iadd (pc := 511) hx hb dL_law_511 ?_
  refine lv_topi (fun v3 ev3 => ?_)
  obtain rfl : v3 = 3 := ev3.trans (by decide +kernel)
  refine va_sld (pc := 512) hx hb hX hbl hbA hW.2.2 (vp_in_nI (n := 3) (by decide) (by decide)) dL_law_512 ?_
  refine lv_aload_n (pc := 513) hx hb dL_law_513 rfl (lv_at hl 0 rfl) ?_
  refine lv_iload (pc := 514) hx hb dL_law_514 (lv_at hl 4 rfl) ?_
  refine lv_iconst (v := 4) (pc := 516) hx hb dL_law_516 (by decide) ?_
  refine lv_iadd (pc := 517) hx hb dL_law_517 ?_
  refine lv_topi (fun v4 ev4 => ?_)
  obtain rfl : v4 = 4 := ev4.trans (by decide +kernel)
  refine va_sld (pc := 518) hx hb hX hbl hbA hW.2.2 (vp_in_nI (n := 4) (by decide) (by decide)) dL_law_518 ?_
  refine c_Vi (pc := 519) (As := [.int (xs (1 : Int32).toNatClampNeg), .int (xs (2 : Int32).toNatClampNeg), .int (xs (3 : Int32).toNatClampNeg), .int (xs (4 : Int32).toNatClampNeg)]) (rest := []) (wr := [(m0, .inr (12, [.int 0, .ref b1, .int 0, .int 0, .int 0, .int 0, .ref b6, .ref b7, .ref b8, .ref b9, .ref b10, .ref b11, .ref b12, .ref b13, .ref b14, .ref b15, .ref b16, .ref b17, .int 0, .int (-1), .int (-1), .ref b21, .ref b22, .ref b23, .ref b24, .ref b25, .ref b26, .int 0, .ref b28, .ref b29, .ref b30, .ref b31, .ref b32, .ref b33, .ref b34, .ref b35, .ref b36, .int 0, .int 0, .int 0, .int 0, .int 0, .int 0, .int 0, .int 0, .int 0, .ref b46, .ref b47, .ref b48, .ref b49, .ref b50, .ref b51, .ref b52, .ref b53, .ref b54, .ref b55, .ref b56, .ref b57, .ref b58, .ref b59, .ref b60, .ref b61, .ref b62, .ref b63]))]) X hW 0 ciX11 rfl (C_X11_may l g x0 a0 a1 a2 a3 a4 a5 a6 a7 a8 a9 a10 (xs (1 : Int32).toNatClampNeg) (xs (2 : Int32).toNatClampNeg) (xs (3 : Int32).toNatClampNeg) (xs (4 : Int32).toNatClampNeg)) vL_57 [0] [1] rfl rfl rfl rfl rfl rfl hl.1 rfl (Nat.le_of_ble_eq_true rfl) ⟨Nat.le_of_ble_eq_true rfl, Nat.le_of_ble_eq_true rfl⟩ ⟨Nat.le_of_ble_eq_true rfl, Nat.le_of_ble_eq_true rfl⟩ dL_law_519 (fun r5 u9 H locs hq hW => ?_)
  obtain ⟨rfl, rfl⟩ := hq
  have hW : WD g (AL s) s _ _ [(m0, .inr (12, [.int 0, .ref b1, .int 0, .int 0, .int 0, .int 0, .ref b6, .ref b7, .ref b8, .ref b9, .ref b10, .ref b11, .ref b12, .ref b13, .ref b14, .ref b15, .ref b16, .ref b17, .int 0, .int (-1), .int (-1), .ref b21, .ref b22, .ref b23, .ref b24, .ref b25, .ref b26, .int 0, .ref b28, .ref b29, .ref b30, .ref b31, .ref b32, .ref b33, .ref b34, .ref b35, .ref b36, .int 0, .int 0, .int 0, .int 0, .int 0, .int 0, .int 0, .int 0, .int 0, .ref b46, .ref b47, .ref b48, .ref b49, .ref b50, .ref b51, .ref b52, .ref b53, .ref b54, .ref b55, .ref b56, .ref b57, .ref b58, .ref b59, .ref b60, .ref b61, .ref b62, .ref b63])), (x0, .inr (11, [.ref a0, .ref a1, .ref a2, .ref a3, .ref a4, .ref a5, .ref a6, .ref a7, .ref a8, .ref a9, .ref a10, .int 0, .int 0, .int 0]))] := hW
  refine lv_aload_n (pc := 522) hx hb dL_law_522 rfl (lv_at hl 2 rfl) ?_
  refine lv_aload_n (pc := 523) hx hb dL_law_523 rfl (lv_at hl 0 rfl) ?_
  refine lv_iload (pc := 524) hx hb dL_law_524 (lv_at hl 4 rfl) ?_
  refine lv_iconst (v := 1) (pc := 526) hx hb dL_law_526 (by decide) ?_
  refine lv_iadd (pc := 527) hx hb dL_law_527 ?_
  refine lv_topi (fun v6 ev6 => ?_)
  obtain rfl : v6 = 1 := ev6.trans (by decide +kernel)
  refine va_sld (pc := 528) hx hb hX hbl hbA hW.2.2 (vp_in_nI (n := 1) (by decide) (by decide)) dL_law_528 ?_
  refine lv_aload_n (pc := 529) hx hb dL_law_529 rfl (lv_at hl 0 rfl) ?_
  refine lv_iload (pc := 530) hx hb dL_law_530 (lv_at hl 4 rfl) ?_
  refine lv_iconst (v := 2) (pc := 532) hx hb dL_law_532 (by decide) ?_
  refine lv_iadd (pc := 533) hx hb dL_law_533 ?_
  refine lv_topi (fun v7 ev7 => ?_)
  obtain rfl : v7 = 2 := ev7.trans (by decide +kernel)
  refine va_sld (pc := 534) hx hb hX hbl hbA hW.2.2 (vp_in_nI (n := 2) (by decide) (by decide)) dL_law_534 ?_
  refine lv_aload_n (pc := 535) hx hb dL_law_535 rfl (lv_at hl 0 rfl) ?_
  refine lv_iload (pc := 536) hx hb dL_law_536 (lv_at hl 4 rfl) ?_
  refine lv_iconst (v := 3) (pc := 538) hx hb dL_law_538 (by decide) ?_
  refine lv_iadd (pc := 539) hx hb dL_law_539 ?_
  refine lv_topi (fun v8 ev8 => ?_)
  obtain rfl : v8 = 3 := ev8.trans (by decide +kernel)
  refine va_sld (pc := 540) hx hb hX hbl hbA hW.2.2 (vp_in_nI (n := 3) (by decide) (by decide)) dL_law_540 ?_
  refine lv_aload_n (pc := 541) hx hb dL_law_541 rfl (lv_at hl 0 rfl) ?_
  refine lv_iload (pc := 542) hx hb dL_law_542 (lv_at hl 4 rfl) ?_
  refine lv_iconst (v := 4) (pc := 544) hx hb dL_law_544 (by decide) ?_
  refine lv_iadd (pc := 545) hx hb dL_law_545 ?_
  refine lv_topi (fun v9 ev9 => ?_)
  obtain rfl : v9 = 4 := ev9.trans (by decide +kernel)
  refine va_sld (pc := 546) hx hb hX hbl hbA hW.2.2 (vp_in_nI (n := 4) (by decide) (by decide)) dL_law_546 ?_
  refine c_Vi (pc := 547) (As := [.int (xs (1 : Int32).toNatClampNeg), .int (xs (2 : Int32).toNatClampNeg), .int (xs (3 : Int32).toNatClampNeg), .int (xs (4 : Int32).toNatClampNeg)]) (rest := [.int (-1)]) (wr := [(x0, .inr (11, [.ref a0, .ref a1, .ref a2, .ref a3, .ref a4, .ref a5, .ref a6, .ref a7, .ref a8, .ref a9, .ref a10, .int 0, .int 0, .int 0]))]) X hW 0 ciX12 rfl (C_X12_may l g m0 b1 b6 b7 b8 b9 b10 b11 b12 b13 b14 b15 b16 b17 b21 b22 b23 b24 b25 b26 b28 b29 b30 b31 b32 b33 b34 b35 b36 b46 b47 b48 b49 b50 b51 b52 b53 b54 b55 b56 b57 b58 b59 b60 b61 b62 b63 (xs (1 : Int32).toNatClampNeg) (xs (2 : Int32).toNatClampNeg) (xs (3 : Int32).toNatClampNeg) (xs (4 : Int32).toNatClampNeg)) vL_61 [0] [1] rfl rfl rfl rfl rfl rfl hl.1 rfl (Nat.le_of_ble_eq_true rfl) ⟨Nat.le_of_ble_eq_true rfl, Nat.le_of_ble_eq_true rfl⟩ ⟨Nat.le_of_ble_eq_true rfl, Nat.le_of_ble_eq_true rfl⟩ dL_law_547 (fun r10 u9 H locs hq hW => ?_)
  obtain ⟨rfl, rfl⟩ := hq
  have hW : WD g (AL s) s _ _ [(x0, .inr (11, [.ref a0, .ref a1, .ref a2, .ref a3, .ref a4, .ref a5, .ref a6, .ref a7, .ref a8, .ref a9, .ref a10, .int 0, .int 0, .int 0])), (m0, .inr (12, [.int 0, .ref b1, .int 0, .int 0, .int 0, .int 0, .ref b6, .ref b7, .ref b8, .ref b9, .ref b10, .ref b11, .ref b12, .ref b13, .ref b14, .ref b15, .ref b16, .ref b17, .int 0, .int (-1), .int (-1), .ref b21, .ref b22, .ref b23, .ref b24, .ref b25, .ref b26, .int 0, .ref b28, .ref b29, .ref b30, .ref b31, .ref b32, .ref b33, .ref b34, .ref b35, .ref b36, .int 0, .int 0, .int 0, .int 0, .int 0, .int 0, .int 0, .int 0, .int 0, .ref b46, .ref b47, .ref b48, .ref b49, .ref b50, .ref b51, .ref b52, .ref b53, .ref b54, .ref b55, .ref b56, .ref b57, .ref b58, .ref b59, .ref b60, .ref b61, .ref b62, .ref b63]))] := hW
  refine lv_icmp_eq (tgt := 1865) (pc := 550) hx hb dL_law_550 rfl (fun c11 => ?_) (fun c11 => absurd (by decide) c11)
  exact law_end X hr hX hbl ⟨Nat.le_of_ble_eq_true rfl, Nat.le_of_ble_eq_true rfl⟩ (hW.pick [] rfl rfl) (lv_sub hl [0, 4] rfl)

set_option maxHeartbeats 4000000 in
set_option maxRecDepth 100000 in
theorem law_8 {p : Program} {e : Env} {s : State} {m : MethodId} {below : List Frame} {meth : Method} {c : Code} {l : Launch} {b : Nat} {xs : Nat → Int32} {g : GG} {H : Heap} {locs : List Loc} {ls : Array Slot} {a0 a1 a10 a2 a3 a4 a5 a6 a7 a8 a9 b1 b10 b11 b12 b13 b14 b15 b16 b17 b21 b22 b23 b24 b25 b26 b28 b29 b30 b31 b32 b33 b34 b35 b36 b46 b47 b48 b49 b50 b51 b52 b53 b54 b55 b56 b57 b58 b59 b6 b60 b61 b62 b63 b7 b8 b9 m0 o0 x0 : Nat} (X : CTX p l m meth c cL_law 7 s #[Value.ref b] RL g (AL s)) (hr : meth.sig.returnType = ret) (hX : va_X b 6 xs s s.heap) (hbl : b < s.heap.size) (hW : WD g (AL s) s H locs [(x0, .inr (11, [.ref a0, .ref a1, .ref a2, .ref a3, .ref a4, .ref a5, .ref a6, .ref a7, .ref a8, .ref a9, .ref a10, .int 0, .int 0, .int 0])), (m0, .inr (12, [.int 0, .ref b1, .int 0, .int 0, .int 0, .int 0, .ref b6, .ref b7, .ref b8, .ref b9, .ref b10, .ref b11, .ref b12, .ref b13, .ref b14, .ref b15, .ref b16, .ref b17, .int 0, .int (-1), .int (-1), .ref b21, .ref b22, .ref b23, .ref b24, .ref b25, .ref b26, .int 0, .ref b28, .ref b29, .ref b30, .ref b31, .ref b32, .ref b33, .ref b34, .ref b35, .ref b36, .int 0, .int 0, .int 0, .int 0, .int 0, .int 0, .int 0, .int 0, .int 0, .ref b46, .ref b47, .ref b48, .ref b49, .ref b50, .ref b51, .ref b52, .ref b53, .ref b54, .ref b55, .ref b56, .ref b57, .ref b58, .ref b59, .ref b60, .ref b61, .ref b62, .ref b63]))]) (hl : lv_has ls 7 [(0, .ref b), (1, .ref x0), (2, .ref m0), (3, .ref o0), (4, .int 0)]) : W p l e room_1 s m #[Value.ref b] below meth c H locs 97 615458 (lw_Z below #[Value.ref b] s) (F0 m 555 ls []) := by
  have hx := X.1
  have hb := X.2.1
  have hbA : ¬ (AL s) b := Nat.not_le.mpr hbl
  refine lv_aload_n (pc := 555) hx hb dL_law_555 rfl (lv_at hl 1 rfl) ?_
  refine lv_aload_n (pc := 556) hx hb dL_law_556 rfl (lv_at hl 0 rfl) ?_
  refine lv_iload (pc := 557) hx hb dL_law_557 (lv_at hl 4 rfl) ?_
  refine lv_iconst (v := 1) (pc := 559) hx hb dL_law_559 (by decide) ?_
  refine lv_iadd (pc := 560) hx hb dL_law_560 ?_
  refine lv_topi (fun v1 ev1 => ?_)
  obtain rfl : v1 = 1 := ev1.trans (by decide +kernel)
  refine va_sld (pc := 561) hx hb hX hbl hbA hW.2.2 (vp_in_nI (n := 1) (by decide) (by decide)) dL_law_561 ?_
  refine c_Vi (pc := 562) (As := [.int (xs (1 : Int32).toNatClampNeg)]) (rest := []) (wr := [(m0, .inr (12, [.int 0, .ref b1, .int 0, .int 0, .int 0, .int 0, .ref b6, .ref b7, .ref b8, .ref b9, .ref b10, .ref b11, .ref b12, .ref b13, .ref b14, .ref b15, .ref b16, .ref b17, .int 0, .int (-1), .int (-1), .ref b21, .ref b22, .ref b23, .ref b24, .ref b25, .ref b26, .int 0, .ref b28, .ref b29, .ref b30, .ref b31, .ref b32, .ref b33, .ref b34, .ref b35, .ref b36, .int 0, .int 0, .int 0, .int 0, .int 0, .int 0, .int 0, .int 0, .int 0, .ref b46, .ref b47, .ref b48, .ref b49, .ref b50, .ref b51, .ref b52, .ref b53, .ref b54, .ref b55, .ref b56, .ref b57, .ref b58, .ref b59, .ref b60, .ref b61, .ref b62, .ref b63]))]) X hW 0 ciX11 rfl (C_X11_plan l g x0 a0 a1 a2 a3 a4 a5 a6 a7 a8 a9 a10 (xs (1 : Int32).toNatClampNeg)) vL_62 [0] [1] rfl rfl rfl rfl rfl rfl hl.1 rfl (Nat.le_of_ble_eq_true rfl) ⟨Nat.le_of_ble_eq_true rfl, Nat.le_of_ble_eq_true rfl⟩ ⟨Nat.le_of_ble_eq_true rfl, Nat.le_of_ble_eq_true rfl⟩ dL_law_562 (fun r2 u9 H locs hq hW => ?_)
  obtain ⟨rfl, rfl⟩ := hq
  have hW : WD g (AL s) s _ _ [(m0, .inr (12, [.int 0, .ref b1, .int 0, .int 0, .int 0, .int 0, .ref b6, .ref b7, .ref b8, .ref b9, .ref b10, .ref b11, .ref b12, .ref b13, .ref b14, .ref b15, .ref b16, .ref b17, .int 0, .int (-1), .int (-1), .ref b21, .ref b22, .ref b23, .ref b24, .ref b25, .ref b26, .int 0, .ref b28, .ref b29, .ref b30, .ref b31, .ref b32, .ref b33, .ref b34, .ref b35, .ref b36, .int 0, .int 0, .int 0, .int 0, .int 0, .int 0, .int 0, .int 0, .int 0, .ref b46, .ref b47, .ref b48, .ref b49, .ref b50, .ref b51, .ref b52, .ref b53, .ref b54, .ref b55, .ref b56, .ref b57, .ref b58, .ref b59, .ref b60, .ref b61, .ref b62, .ref b63])), (x0, .inr (11, [.ref a0, .ref a1, .ref a2, .ref a3, .ref a4, .ref a5, .ref a6, .ref a7, .ref a8, .ref a9, .ref a10, .int 0, .int 0, .int 0]))] := hW
  refine lv_aload_n (pc := 565) hx hb dL_law_565 rfl (lv_at hl 2 rfl) ?_
  refine lv_aload_n (pc := 566) hx hb dL_law_566 rfl (lv_at hl 0 rfl) ?_
  refine lv_iload (pc := 567) hx hb dL_law_567 (lv_at hl 4 rfl) ?_
  refine lv_iconst (v := 1) (pc := 569) hx hb dL_law_569 (by decide) ?_
  refine lv_iadd (pc := 570) hx hb dL_law_570 ?_
  refine lv_topi (fun v3 ev3 => ?_)
  obtain rfl : v3 = 1 := ev3.trans (by decide +kernel)
  refine va_sld (pc := 571) hx hb hX hbl hbA hW.2.2 (vp_in_nI (n := 1) (by decide) (by decide)) dL_law_571 ?_
  refine c_Vi (pc := 572) (As := [.int (xs (1 : Int32).toNatClampNeg)]) (rest := [.int (-1)]) (wr := [(x0, .inr (11, [.ref a0, .ref a1, .ref a2, .ref a3, .ref a4, .ref a5, .ref a6, .ref a7, .ref a8, .ref a9, .ref a10, .int 0, .int 0, .int 0]))]) X hW 0 ciX12 rfl (C_X12_plan l g m0 b1 b6 b7 b8 b9 b10 b11 b12 b13 b14 b15 b16 b17 b21 b22 b23 b24 b25 b26 b28 b29 b30 b31 b32 b33 b34 b35 b36 b46 b47 b48 b49 b50 b51 b52 b53 b54 b55 b56 b57 b58 b59 b60 b61 b62 b63 (xs (1 : Int32).toNatClampNeg)) vL_66 [0] [1] rfl rfl rfl rfl rfl rfl hl.1 rfl (Nat.le_of_ble_eq_true rfl) ⟨Nat.le_of_ble_eq_true rfl, Nat.le_of_ble_eq_true rfl⟩ ⟨Nat.le_of_ble_eq_true rfl, Nat.le_of_ble_eq_true rfl⟩ dL_law_572 (fun r4 u9 H locs hq hW => ?_)
  obtain ⟨rfl, rfl⟩ := hq
  have hW : WD g (AL s) s _ _ [(x0, .inr (11, [.ref a0, .ref a1, .ref a2, .ref a3, .ref a4, .ref a5, .ref a6, .ref a7, .ref a8, .ref a9, .ref a10, .int 0, .int 0, .int 0])), (m0, .inr (12, [.int 0, .ref b1, .int 0, .int 0, .int 0, .int 0, .ref b6, .ref b7, .ref b8, .ref b9, .ref b10, .ref b11, .ref b12, .ref b13, .ref b14, .ref b15, .ref b16, .ref b17, .int 0, .int (-1), .int (-1), .ref b21, .ref b22, .ref b23, .ref b24, .ref b25, .ref b26, .int 0, .ref b28, .ref b29, .ref b30, .ref b31, .ref b32, .ref b33, .ref b34, .ref b35, .ref b36, .int 0, .int 0, .int 0, .int 0, .int 0, .int 0, .int 0, .int 0, .int 0, .ref b46, .ref b47, .ref b48, .ref b49, .ref b50, .ref b51, .ref b52, .ref b53, .ref b54, .ref b55, .ref b56, .ref b57, .ref b58, .ref b59, .ref b60, .ref b61, .ref b62, .ref b63]))] := hW
  refine lv_icmp_eq (tgt := 1865) (pc := 575) hx hb dL_law_575 rfl (fun c5 => ?_) (fun c5 => absurd (by decide) c5)
  exact law_end X hr hX hbl ⟨Nat.le_of_ble_eq_true rfl, Nat.le_of_ble_eq_true rfl⟩ (hW.pick [] rfl rfl) (lv_sub hl [0, 4] rfl)

set_option maxHeartbeats 4000000 in
set_option maxRecDepth 100000 in
theorem law_9 {p : Program} {e : Env} {s : State} {m : MethodId} {below : List Frame} {meth : Method} {c : Code} {l : Launch} {b : Nat} {xs : Nat → Int32} {g : GG} {H : Heap} {locs : List Loc} {ls : Array Slot} {a0 a1 a10 a2 a3 a4 a5 a6 a7 a8 a9 b1 b10 b11 b12 b13 b14 b15 b16 b17 b21 b22 b23 b24 b25 b26 b28 b29 b30 b31 b32 b33 b34 b35 b36 b46 b47 b48 b49 b50 b51 b52 b53 b54 b55 b56 b57 b58 b59 b6 b60 b61 b62 b63 b7 b8 b9 m0 o0 x0 : Nat} (X : CTX p l m meth c cL_law 7 s #[Value.ref b] RL g (AL s)) (hr : meth.sig.returnType = ret) (hX : va_X b 6 xs s s.heap) (hbl : b < s.heap.size) (hW : WD g (AL s) s H locs [(x0, .inr (11, [.ref a0, .ref a1, .ref a2, .ref a3, .ref a4, .ref a5, .ref a6, .ref a7, .ref a8, .ref a9, .ref a10, .int 0, .int 0, .int 0])), (m0, .inr (12, [.int 0, .ref b1, .int 0, .int 0, .int 0, .int 0, .ref b6, .ref b7, .ref b8, .ref b9, .ref b10, .ref b11, .ref b12, .ref b13, .ref b14, .ref b15, .ref b16, .ref b17, .int 0, .int (-1), .int (-1), .ref b21, .ref b22, .ref b23, .ref b24, .ref b25, .ref b26, .int 0, .ref b28, .ref b29, .ref b30, .ref b31, .ref b32, .ref b33, .ref b34, .ref b35, .ref b36, .int 0, .int 0, .int 0, .int 0, .int 0, .int 0, .int 0, .int 0, .int 0, .ref b46, .ref b47, .ref b48, .ref b49, .ref b50, .ref b51, .ref b52, .ref b53, .ref b54, .ref b55, .ref b56, .ref b57, .ref b58, .ref b59, .ref b60, .ref b61, .ref b62, .ref b63]))]) (hl : lv_has ls 7 [(0, .ref b), (1, .ref x0), (2, .ref m0), (3, .ref o0), (4, .int 0)]) : W p l e room_1 s m #[Value.ref b] below meth c H locs 97 615458 (lw_Z below #[Value.ref b] s) (F0 m 580 ls []) := by
  have hx := X.1
  have hb := X.2.1
  have hbA : ¬ (AL s) b := Nat.not_le.mpr hbl
  refine lv_aload_n (pc := 580) hx hb dL_law_580 rfl (lv_at hl 1 rfl) ?_
  refine lv_aload_n (pc := 581) hx hb dL_law_581 rfl (lv_at hl 0 rfl) ?_
  refine lv_iload (pc := 582) hx hb dL_law_582 (lv_at hl 4 rfl) ?_
  refine lv_iconst (v := 1) (pc := 584) hx hb dL_law_584 (by decide) ?_
  refine lv_iadd (pc := 585) hx hb dL_law_585 ?_
  refine lv_topi (fun v1 ev1 => ?_)
  obtain rfl : v1 = 1 := ev1.trans (by decide +kernel)
  refine va_sld (pc := 586) hx hb hX hbl hbA hW.2.2 (vp_in_nI (n := 1) (by decide) (by decide)) dL_law_586 ?_
  refine lv_aload_n (pc := 587) hx hb dL_law_587 rfl (lv_at hl 0 rfl) ?_
  refine lv_iload (pc := 588) hx hb dL_law_588 (lv_at hl 4 rfl) ?_
  refine lv_iconst (v := 2) (pc := 590) hx hb dL_law_590 (by decide) ?_
  refine lv_iadd (pc := 591) hx hb dL_law_591 ?_
  refine lv_topi (fun v2 ev2 => ?_)
  obtain rfl : v2 = 2 := ev2.trans (by decide +kernel)
  refine va_sld (pc := 592) hx hb hX hbl hbA hW.2.2 (vp_in_nI (n := 2) (by decide) (by decide)) dL_law_592 ?_
  refine lv_aload_n (pc := 593) hx hb dL_law_593 rfl (lv_at hl 0 rfl) ?_
  refine lv_iload (pc := 594) hx hb dL_law_594 (lv_at hl 4 rfl) ?_
  refine lv_iconst (v := 3) (pc := 596) hx hb dL_law_596 (by decide) ?_
  refine lv_iadd (pc := 597) hx hb dL_law_597 ?_
  refine lv_topi (fun v3 ev3 => ?_)
  obtain rfl : v3 = 3 := ev3.trans (by decide +kernel)
  refine va_sld (pc := 598) hx hb hX hbl hbA hW.2.2 (vp_in_nI (n := 3) (by decide) (by decide)) dL_law_598 ?_
  refine lv_aload_n (pc := 599) hx hb dL_law_599 rfl (lv_at hl 0 rfl) ?_
  refine lv_iload (pc := 600) hx hb dL_law_600 (lv_at hl 4 rfl) ?_
  refine lv_iconst (v := 4) (pc := 602) hx hb dL_law_602 (by decide) ?_
  refine lv_iadd (pc := 603) hx hb dL_law_603 ?_
  refine lv_topi (fun v4 ev4 => ?_)
  obtain rfl : v4 = 4 := ev4.trans (by decide +kernel)
  refine va_sld (pc := 604) hx hb hX hbl hbA hW.2.2 (vp_in_nI (n := 4) (by decide) (by decide)) dL_law_604 ?_
  refine lv_aload_n (pc := 605) hx hb dL_law_605 rfl (lv_at hl 0 rfl) ?_
  refine lv_iload (pc := 606) hx hb dL_law_606 (lv_at hl 4 rfl) ?_
  refine lv_iconst (v := 5) (pc := 608) hx hb dL_law_608 (by decide) ?_
  refine lv_iadd (pc := 609) hx hb dL_law_609 ?_
  refine lv_topi (fun v5 ev5 => ?_)
  obtain rfl : v5 = 5 := ev5.trans (by decide +kernel)
  refine va_sld (pc := 610) hx hb hX hbl hbA hW.2.2 (vp_in_nI (n := 5) (by decide) (by decide)) dL_law_610 ?_
  refine c_Vi (pc := 611) (As := [.int (xs (1 : Int32).toNatClampNeg), .int (xs (2 : Int32).toNatClampNeg), .int (xs (3 : Int32).toNatClampNeg), .int (xs (4 : Int32).toNatClampNeg), .int (xs (5 : Int32).toNatClampNeg)]) (rest := []) (wr := [(m0, .inr (12, [.int 0, .ref b1, .int 0, .int 0, .int 0, .int 0, .ref b6, .ref b7, .ref b8, .ref b9, .ref b10, .ref b11, .ref b12, .ref b13, .ref b14, .ref b15, .ref b16, .ref b17, .int 0, .int (-1), .int (-1), .ref b21, .ref b22, .ref b23, .ref b24, .ref b25, .ref b26, .int 0, .ref b28, .ref b29, .ref b30, .ref b31, .ref b32, .ref b33, .ref b34, .ref b35, .ref b36, .int 0, .int 0, .int 0, .int 0, .int 0, .int 0, .int 0, .int 0, .int 0, .ref b46, .ref b47, .ref b48, .ref b49, .ref b50, .ref b51, .ref b52, .ref b53, .ref b54, .ref b55, .ref b56, .ref b57, .ref b58, .ref b59, .ref b60, .ref b61, .ref b62, .ref b63]))]) X hW 0 ciX11 rfl (C_X11_call l g x0 a0 a1 a2 a3 a4 a5 a6 a7 a8 a9 a10 (xs (1 : Int32).toNatClampNeg) (xs (2 : Int32).toNatClampNeg) (xs (3 : Int32).toNatClampNeg) (xs (4 : Int32).toNatClampNeg) (xs (5 : Int32).toNatClampNeg)) vL_67 [0] [1] rfl rfl rfl rfl rfl rfl hl.1 rfl (Nat.le_of_ble_eq_true rfl) ⟨Nat.le_of_ble_eq_true rfl, Nat.le_of_ble_eq_true rfl⟩ ⟨Nat.le_of_ble_eq_true rfl, Nat.le_of_ble_eq_true rfl⟩ dL_law_611 (fun r6 u9 H locs hq hW => ?_)
  obtain ⟨rfl, rfl⟩ := hq
  have hW : WD g (AL s) s _ _ [(m0, .inr (12, [.int 0, .ref b1, .int 0, .int 0, .int 0, .int 0, .ref b6, .ref b7, .ref b8, .ref b9, .ref b10, .ref b11, .ref b12, .ref b13, .ref b14, .ref b15, .ref b16, .ref b17, .int 0, .int (-1), .int (-1), .ref b21, .ref b22, .ref b23, .ref b24, .ref b25, .ref b26, .int 0, .ref b28, .ref b29, .ref b30, .ref b31, .ref b32, .ref b33, .ref b34, .ref b35, .ref b36, .int 0, .int 0, .int 0, .int 0, .int 0, .int 0, .int 0, .int 0, .int 0, .ref b46, .ref b47, .ref b48, .ref b49, .ref b50, .ref b51, .ref b52, .ref b53, .ref b54, .ref b55, .ref b56, .ref b57, .ref b58, .ref b59, .ref b60, .ref b61, .ref b62, .ref b63])), (x0, .inr (11, [.ref a0, .ref a1, .ref a2, .ref a3, .ref a4, .ref a5, .ref a6, .ref a7, .ref a8, .ref a9, .ref a10, .int 0, .int 0, .int 0]))] := hW
  refine lv_aload_n (pc := 614) hx hb dL_law_614 rfl (lv_at hl 2 rfl) ?_
  refine lv_aload_n (pc := 615) hx hb dL_law_615 rfl (lv_at hl 0 rfl) ?_
  refine lv_iload (pc := 616) hx hb dL_law_616 (lv_at hl 4 rfl) ?_
  refine lv_iconst (v := 1) (pc := 618) hx hb dL_law_618 (by decide) ?_
  refine lv_iadd (pc := 619) hx hb dL_law_619 ?_
  refine lv_topi (fun v7 ev7 => ?_)
  obtain rfl : v7 = 1 := ev7.trans (by decide +kernel)
  refine va_sld (pc := 620) hx hb hX hbl hbA hW.2.2 (vp_in_nI (n := 1) (by decide) (by decide)) dL_law_620 ?_
  refine lv_aload_n (pc := 621) hx hb dL_law_621 rfl (lv_at hl 0 rfl) ?_
  refine lv_iload (pc := 622) hx hb dL_law_622 (lv_at hl 4 rfl) ?_
  refine lv_iconst (v := 2) (pc := 624) hx hb dL_law_624 (by decide) ?_
  refine lv_iadd (pc := 625) hx hb dL_law_625 ?_
  refine lv_topi (fun v8 ev8 => ?_)
  obtain rfl : v8 = 2 := ev8.trans (by decide +kernel)
  refine va_sld (pc := 626) hx hb hX hbl hbA hW.2.2 (vp_in_nI (n := 2) (by decide) (by decide)) dL_law_626 ?_
  refine lv_aload_n (pc := 627) hx hb dL_law_627 rfl (lv_at hl 0 rfl) ?_
  refine lv_iload (pc := 628) hx hb dL_law_628 (lv_at hl 4 rfl) ?_
  refine lv_iconst (v := 3) (pc := 630) hx hb dL_law_630 (by decide) ?_
  refine lv_iadd (pc := 631) hx hb dL_law_631 ?_
  refine lv_topi (fun v9 ev9 => ?_)
  obtain rfl : v9 = 3 := ev9.trans (by decide +kernel)
  refine va_sld (pc := 632) hx hb hX hbl hbA hW.2.2 (vp_in_nI (n := 3) (by decide) (by decide)) dL_law_632 ?_
  refine lv_aload_n (pc := 633) hx hb dL_law_633 rfl (lv_at hl 0 rfl) ?_
  refine lv_iload (pc := 634) hx hb dL_law_634 (lv_at hl 4 rfl) ?_
  refine lv_iconst (v := 4) (pc := 636) hx hb dL_law_636 (by decide) ?_
  refine lv_iadd (pc := 637) hx hb dL_law_637 ?_
  refine lv_topi (fun v10 ev10 => ?_)
  obtain rfl : v10 = 4 := ev10.trans (by decide +kernel)
  refine va_sld (pc := 638) hx hb hX hbl hbA hW.2.2 (vp_in_nI (n := 4) (by decide) (by decide)) dL_law_638 ?_
  refine lv_aload_n (pc := 639) hx hb dL_law_639 rfl (lv_at hl 0 rfl) ?_
  refine lv_iload (pc := 640) hx hb dL_law_640 (lv_at hl 4 rfl) ?_
  refine lv_iconst (v := 5) (pc := 642) hx hb dL_law_642 (by decide) ?_
  refine lv_iadd (pc := 643) hx hb dL_law_643 ?_
  refine lv_topi (fun v11 ev11 => ?_)
  obtain rfl : v11 = 5 := ev11.trans (by decide +kernel)
  refine va_sld (pc := 644) hx hb hX hbl hbA hW.2.2 (vp_in_nI (n := 5) (by decide) (by decide)) dL_law_644 ?_
  refine c_Vi (pc := 645) (As := [.int (xs (1 : Int32).toNatClampNeg), .int (xs (2 : Int32).toNatClampNeg), .int (xs (3 : Int32).toNatClampNeg), .int (xs (4 : Int32).toNatClampNeg), .int (xs (5 : Int32).toNatClampNeg)]) (rest := [.int (-1)]) (wr := [(x0, .inr (11, [.ref a0, .ref a1, .ref a2, .ref a3, .ref a4, .ref a5, .ref a6, .ref a7, .ref a8, .ref a9, .ref a10, .int 0, .int 0, .int 0]))]) X hW 0 ciX12 rfl (C_X12_call l g m0 b1 b6 b7 b8 b9 b10 b11 b12 b13 b14 b15 b16 b17 b21 b22 b23 b24 b25 b26 b28 b29 b30 b31 b32 b33 b34 b35 b36 b46 b47 b48 b49 b50 b51 b52 b53 b54 b55 b56 b57 b58 b59 b60 b61 b62 b63 (xs (1 : Int32).toNatClampNeg) (xs (2 : Int32).toNatClampNeg) (xs (3 : Int32).toNatClampNeg) (xs (4 : Int32).toNatClampNeg) (xs (5 : Int32).toNatClampNeg)) vL_70 [0] [1] rfl rfl rfl rfl rfl rfl hl.1 rfl (Nat.le_of_ble_eq_true rfl) ⟨Nat.le_of_ble_eq_true rfl, Nat.le_of_ble_eq_true rfl⟩ ⟨Nat.le_of_ble_eq_true rfl, Nat.le_of_ble_eq_true rfl⟩ dL_law_645 (fun r12 u9 H locs hq hW => ?_)
  obtain ⟨rfl, rfl⟩ := hq
  have hW : WD g (AL s) s _ _ [(x0, .inr (11, [.ref a0, .ref a1, .ref a2, .ref a3, .ref a4, .ref a5, .ref a6, .ref a7, .ref a8, .ref a9, .ref a10, .int 0, .int 0, .int 0])), (m0, .inr (12, [.int 0, .ref b1, .int 0, .int 0, .int 0, .int 0, .ref b6, .ref b7, .ref b8, .ref b9, .ref b10, .ref b11, .ref b12, .ref b13, .ref b14, .ref b15, .ref b16, .ref b17, .int 0, .int (-1), .int (-1), .ref b21, .ref b22, .ref b23, .ref b24, .ref b25, .ref b26, .int 0, .ref b28, .ref b29, .ref b30, .ref b31, .ref b32, .ref b33, .ref b34, .ref b35, .ref b36, .int 0, .int 0, .int 0, .int 0, .int 0, .int 0, .int 0, .int 0, .int 0, .ref b46, .ref b47, .ref b48, .ref b49, .ref b50, .ref b51, .ref b52, .ref b53, .ref b54, .ref b55, .ref b56, .ref b57, .ref b58, .ref b59, .ref b60, .ref b61, .ref b62, .ref b63]))] := hW
  refine lv_icmp_eq (tgt := 1865) (pc := 648) hx hb dL_law_648 rfl (fun c13 => ?_) (fun c13 => absurd (by decide) c13)
  exact law_end X hr hX hbl ⟨Nat.le_of_ble_eq_true rfl, Nat.le_of_ble_eq_true rfl⟩ (hW.pick [] rfl rfl) (lv_sub hl [0, 4] rfl)

set_option maxHeartbeats 4000000 in
set_option maxRecDepth 100000 in
theorem law_10 {p : Program} {e : Env} {s : State} {m : MethodId} {below : List Frame} {meth : Method} {c : Code} {l : Launch} {b : Nat} {xs : Nat → Int32} {g : GG} {H : Heap} {locs : List Loc} {ls : Array Slot} {a0 a1 a10 a2 a3 a4 a5 a6 a7 a8 a9 b1 b10 b11 b12 b13 b14 b15 b16 b17 b21 b22 b23 b24 b25 b26 b28 b29 b30 b31 b32 b33 b34 b35 b36 b46 b47 b48 b49 b50 b51 b52 b53 b54 b55 b56 b57 b58 b59 b6 b60 b61 b62 b63 b7 b8 b9 m0 o0 x0 : Nat} (X : CTX p l m meth c cL_law 7 s #[Value.ref b] RL g (AL s)) (hr : meth.sig.returnType = ret) (hX : va_X b 6 xs s s.heap) (hbl : b < s.heap.size) (hW : WD g (AL s) s H locs [(x0, .inr (11, [.ref a0, .ref a1, .ref a2, .ref a3, .ref a4, .ref a5, .ref a6, .ref a7, .ref a8, .ref a9, .ref a10, .int 0, .int 0, .int 0])), (m0, .inr (12, [.int 0, .ref b1, .int 0, .int 0, .int 0, .int 0, .ref b6, .ref b7, .ref b8, .ref b9, .ref b10, .ref b11, .ref b12, .ref b13, .ref b14, .ref b15, .ref b16, .ref b17, .int 0, .int (-1), .int (-1), .ref b21, .ref b22, .ref b23, .ref b24, .ref b25, .ref b26, .int 0, .ref b28, .ref b29, .ref b30, .ref b31, .ref b32, .ref b33, .ref b34, .ref b35, .ref b36, .int 0, .int 0, .int 0, .int 0, .int 0, .int 0, .int 0, .int 0, .int 0, .ref b46, .ref b47, .ref b48, .ref b49, .ref b50, .ref b51, .ref b52, .ref b53, .ref b54, .ref b55, .ref b56, .ref b57, .ref b58, .ref b59, .ref b60, .ref b61, .ref b62, .ref b63]))]) (hl : lv_has ls 7 [(0, .ref b), (1, .ref x0), (2, .ref m0), (3, .ref o0), (4, .int 0)]) : W p l e room_1 s m #[Value.ref b] below meth c H locs 97 615458 (lw_Z below #[Value.ref b] s) (F0 m 653 ls []) := by
  have hx := X.1
  have hb := X.2.1
  have hbA : ¬ (AL s) b := Nat.not_le.mpr hbl
  refine lv_aload_n (pc := 653) hx hb dL_law_653 rfl (lv_at hl 1 rfl) ?_
  refine lv_aload_n (pc := 654) hx hb dL_law_654 rfl (lv_at hl 0 rfl) ?_
  refine lv_iload (pc := 655) hx hb dL_law_655 (lv_at hl 4 rfl) ?_
  refine lv_iconst (v := 1) (pc := 657) hx hb dL_law_657 (by decide) ?_
  refine lv_iadd (pc := 658) hx hb dL_law_658 ?_
  refine lv_topi (fun v1 ev1 => ?_)
  obtain rfl : v1 = 1 := ev1.trans (by decide +kernel)
  refine va_sld (pc := 659) hx hb hX hbl hbA hW.2.2 (vp_in_nI (n := 1) (by decide) (by decide)) dL_law_659 ?_
  refine lv_aload_n (pc := 660) hx hb dL_law_660 rfl (lv_at hl 0 rfl) ?_
  refine lv_iload (pc := 661) hx hb dL_law_661 (lv_at hl 4 rfl) ?_
  refine lv_iconst (v := 2) (pc := 663) hx hb dL_law_663 (by decide) ?_
  refine lv_iadd (pc := 664) hx hb dL_law_664 ?_
  refine lv_topi (fun v2 ev2 => ?_)
  obtain rfl : v2 = 2 := ev2.trans (by decide +kernel)
  refine va_sld (pc := 665) hx hb hX hbl hbA hW.2.2 (vp_in_nI (n := 2) (by decide) (by decide)) dL_law_665 ?_
  refine c_Vi (pc := 666) (As := [.int (xs (1 : Int32).toNatClampNeg), .int (xs (2 : Int32).toNatClampNeg)]) (rest := []) (wr := [(m0, .inr (12, [.int 0, .ref b1, .int 0, .int 0, .int 0, .int 0, .ref b6, .ref b7, .ref b8, .ref b9, .ref b10, .ref b11, .ref b12, .ref b13, .ref b14, .ref b15, .ref b16, .ref b17, .int 0, .int (-1), .int (-1), .ref b21, .ref b22, .ref b23, .ref b24, .ref b25, .ref b26, .int 0, .ref b28, .ref b29, .ref b30, .ref b31, .ref b32, .ref b33, .ref b34, .ref b35, .ref b36, .int 0, .int 0, .int 0, .int 0, .int 0, .int 0, .int 0, .int 0, .int 0, .ref b46, .ref b47, .ref b48, .ref b49, .ref b50, .ref b51, .ref b52, .ref b53, .ref b54, .ref b55, .ref b56, .ref b57, .ref b58, .ref b59, .ref b60, .ref b61, .ref b62, .ref b63]))]) X hW 0 ciX11 rfl (C_X11_lawful l g x0 a0 a1 a2 a3 a4 a5 a6 a7 a8 a9 a10 (xs (1 : Int32).toNatClampNeg) (xs (2 : Int32).toNatClampNeg)) vL_71 [0] [1] rfl rfl rfl rfl rfl rfl hl.1 rfl (Nat.le_of_ble_eq_true rfl) ⟨Nat.le_of_ble_eq_true rfl, Nat.le_of_ble_eq_true rfl⟩ ⟨Nat.le_of_ble_eq_true rfl, Nat.le_of_ble_eq_true rfl⟩ dL_law_666 (fun r3 u9 H locs hq hW => ?_)
  obtain ⟨rfl, rfl⟩ := hq
  have hW : WD g (AL s) s _ _ [(m0, .inr (12, [.int 0, .ref b1, .int 0, .int 0, .int 0, .int 0, .ref b6, .ref b7, .ref b8, .ref b9, .ref b10, .ref b11, .ref b12, .ref b13, .ref b14, .ref b15, .ref b16, .ref b17, .int 0, .int (-1), .int (-1), .ref b21, .ref b22, .ref b23, .ref b24, .ref b25, .ref b26, .int 0, .ref b28, .ref b29, .ref b30, .ref b31, .ref b32, .ref b33, .ref b34, .ref b35, .ref b36, .int 0, .int 0, .int 0, .int 0, .int 0, .int 0, .int 0, .int 0, .int 0, .ref b46, .ref b47, .ref b48, .ref b49, .ref b50, .ref b51, .ref b52, .ref b53, .ref b54, .ref b55, .ref b56, .ref b57, .ref b58, .ref b59, .ref b60, .ref b61, .ref b62, .ref b63])), (x0, .inr (11, [.ref a0, .ref a1, .ref a2, .ref a3, .ref a4, .ref a5, .ref a6, .ref a7, .ref a8, .ref a9, .ref a10, .int 0, .int 0, .int 0]))] := hW
  refine lv_aload_n (pc := 669) hx hb dL_law_669 rfl (lv_at hl 2 rfl) ?_
  refine lv_aload_n (pc := 670) hx hb dL_law_670 rfl (lv_at hl 0 rfl) ?_
  refine lv_iload (pc := 671) hx hb dL_law_671 (lv_at hl 4 rfl) ?_
  refine lv_iconst (v := 1) (pc := 673) hx hb dL_law_673 (by decide) ?_
  refine lv_iadd (pc := 674) hx hb dL_law_674 ?_
  refine lv_topi (fun v4 ev4 => ?_)
  obtain rfl : v4 = 1 := ev4.trans (by decide +kernel)
  refine va_sld (pc := 675) hx hb hX hbl hbA hW.2.2 (vp_in_nI (n := 1) (by decide) (by decide)) dL_law_675 ?_
  refine lv_aload_n (pc := 676) hx hb dL_law_676 rfl (lv_at hl 0 rfl) ?_
  refine lv_iload (pc := 677) hx hb dL_law_677 (lv_at hl 4 rfl) ?_
  refine lv_iconst (v := 2) (pc := 679) hx hb dL_law_679 (by decide) ?_
  refine lv_iadd (pc := 680) hx hb dL_law_680 ?_
  refine lv_topi (fun v5 ev5 => ?_)
  obtain rfl : v5 = 2 := ev5.trans (by decide +kernel)
  refine va_sld (pc := 681) hx hb hX hbl hbA hW.2.2 (vp_in_nI (n := 2) (by decide) (by decide)) dL_law_681 ?_
  refine c_Vi (pc := 682) (As := [.int (xs (1 : Int32).toNatClampNeg), .int (xs (2 : Int32).toNatClampNeg)]) (rest := [.int (-1)]) (wr := [(x0, .inr (11, [.ref a0, .ref a1, .ref a2, .ref a3, .ref a4, .ref a5, .ref a6, .ref a7, .ref a8, .ref a9, .ref a10, .int 0, .int 0, .int 0]))]) X hW 0 ciX12 rfl (C_X12_lawful l g m0 b1 b6 b7 b8 b9 b10 b11 b12 b13 b14 b15 b16 b17 b21 b22 b23 b24 b25 b26 b28 b29 b30 b31 b32 b33 b34 b35 b36 b46 b47 b48 b49 b50 b51 b52 b53 b54 b55 b56 b57 b58 b59 b60 b61 b62 b63 (xs (1 : Int32).toNatClampNeg) (xs (2 : Int32).toNatClampNeg)) vL_74 [0] [1] rfl rfl rfl rfl rfl rfl hl.1 rfl (Nat.le_of_ble_eq_true rfl) ⟨Nat.le_of_ble_eq_true rfl, Nat.le_of_ble_eq_true rfl⟩ ⟨Nat.le_of_ble_eq_true rfl, Nat.le_of_ble_eq_true rfl⟩ dL_law_682 (fun r6 u9 H locs hq hW => ?_)
  obtain ⟨rfl, rfl⟩ := hq
  have hW : WD g (AL s) s _ _ [(x0, .inr (11, [.ref a0, .ref a1, .ref a2, .ref a3, .ref a4, .ref a5, .ref a6, .ref a7, .ref a8, .ref a9, .ref a10, .int 0, .int 0, .int 0])), (m0, .inr (12, [.int 0, .ref b1, .int 0, .int 0, .int 0, .int 0, .ref b6, .ref b7, .ref b8, .ref b9, .ref b10, .ref b11, .ref b12, .ref b13, .ref b14, .ref b15, .ref b16, .ref b17, .int 0, .int (-1), .int (-1), .ref b21, .ref b22, .ref b23, .ref b24, .ref b25, .ref b26, .int 0, .ref b28, .ref b29, .ref b30, .ref b31, .ref b32, .ref b33, .ref b34, .ref b35, .ref b36, .int 0, .int 0, .int 0, .int 0, .int 0, .int 0, .int 0, .int 0, .int 0, .ref b46, .ref b47, .ref b48, .ref b49, .ref b50, .ref b51, .ref b52, .ref b53, .ref b54, .ref b55, .ref b56, .ref b57, .ref b58, .ref b59, .ref b60, .ref b61, .ref b62, .ref b63]))] := hW
  refine lv_icmp_eq (tgt := 1865) (pc := 685) hx hb dL_law_685 rfl (fun c7 => ?_) (fun c7 => absurd (by decide) c7)
  exact law_end X hr hX hbl ⟨Nat.le_of_ble_eq_true rfl, Nat.le_of_ble_eq_true rfl⟩ (hW.pick [] rfl rfl) (lv_sub hl [0, 4] rfl)

set_option maxHeartbeats 4000000 in
set_option maxRecDepth 100000 in
theorem law_11 {p : Program} {e : Env} {s : State} {m : MethodId} {below : List Frame} {meth : Method} {c : Code} {l : Launch} {b : Nat} {xs : Nat → Int32} {g : GG} {H : Heap} {locs : List Loc} {ls : Array Slot} {a0 a1 a10 a2 a3 a4 a5 a6 a7 a8 a9 b1 b10 b11 b12 b13 b14 b15 b16 b17 b21 b22 b23 b24 b25 b26 b28 b29 b30 b31 b32 b33 b34 b35 b36 b46 b47 b48 b49 b50 b51 b52 b53 b54 b55 b56 b57 b58 b59 b6 b60 b61 b62 b63 b7 b8 b9 m0 o0 x0 : Nat} (X : CTX p l m meth c cL_law 7 s #[Value.ref b] RL g (AL s)) (hr : meth.sig.returnType = ret) (hX : va_X b 6 xs s s.heap) (hbl : b < s.heap.size) (hW : WD g (AL s) s H locs [(x0, .inr (11, [.ref a0, .ref a1, .ref a2, .ref a3, .ref a4, .ref a5, .ref a6, .ref a7, .ref a8, .ref a9, .ref a10, .int 0, .int 0, .int 0])), (m0, .inr (12, [.int 0, .ref b1, .int 0, .int 0, .int 0, .int 0, .ref b6, .ref b7, .ref b8, .ref b9, .ref b10, .ref b11, .ref b12, .ref b13, .ref b14, .ref b15, .ref b16, .ref b17, .int 0, .int (-1), .int (-1), .ref b21, .ref b22, .ref b23, .ref b24, .ref b25, .ref b26, .int 0, .ref b28, .ref b29, .ref b30, .ref b31, .ref b32, .ref b33, .ref b34, .ref b35, .ref b36, .int 0, .int 0, .int 0, .int 0, .int 0, .int 0, .int 0, .int 0, .int 0, .ref b46, .ref b47, .ref b48, .ref b49, .ref b50, .ref b51, .ref b52, .ref b53, .ref b54, .ref b55, .ref b56, .ref b57, .ref b58, .ref b59, .ref b60, .ref b61, .ref b62, .ref b63]))]) (hl : lv_has ls 7 [(0, .ref b), (1, .ref x0), (2, .ref m0), (3, .ref o0), (4, .int 0)]) : W p l e room_1 s m #[Value.ref b] below meth c H locs 97 615458 (lw_Z below #[Value.ref b] s) (F0 m 690 ls []) := by
  have hx := X.1
  have hb := X.2.1
  have hbA : ¬ (AL s) b := Nat.not_le.mpr hbl
  refine lv_aload_n (pc := 690) hx hb dL_law_690 rfl (lv_at hl 1 rfl) ?_
  refine lv_aload_n (pc := 691) hx hb dL_law_691 rfl (lv_at hl 0 rfl) ?_
  refine lv_iload (pc := 692) hx hb dL_law_692 (lv_at hl 4 rfl) ?_
  refine lv_iconst (v := 1) (pc := 694) hx hb dL_law_694 (by decide) ?_
  refine lv_iadd (pc := 695) hx hb dL_law_695 ?_
  refine lv_topi (fun v1 ev1 => ?_)
  obtain rfl : v1 = 1 := ev1.trans (by decide +kernel)
  refine va_sld (pc := 696) hx hb hX hbl hbA hW.2.2 (vp_in_nI (n := 1) (by decide) (by decide)) dL_law_696 ?_
  refine c_Vi (pc := 697) (As := [.int (xs (1 : Int32).toNatClampNeg)]) (rest := []) (wr := [(m0, .inr (12, [.int 0, .ref b1, .int 0, .int 0, .int 0, .int 0, .ref b6, .ref b7, .ref b8, .ref b9, .ref b10, .ref b11, .ref b12, .ref b13, .ref b14, .ref b15, .ref b16, .ref b17, .int 0, .int (-1), .int (-1), .ref b21, .ref b22, .ref b23, .ref b24, .ref b25, .ref b26, .int 0, .ref b28, .ref b29, .ref b30, .ref b31, .ref b32, .ref b33, .ref b34, .ref b35, .ref b36, .int 0, .int 0, .int 0, .int 0, .int 0, .int 0, .int 0, .int 0, .int 0, .ref b46, .ref b47, .ref b48, .ref b49, .ref b50, .ref b51, .ref b52, .ref b53, .ref b54, .ref b55, .ref b56, .ref b57, .ref b58, .ref b59, .ref b60, .ref b61, .ref b62, .ref b63]))]) X hW 0 ciX11 rfl (C_X11_unlawful l g x0 a0 a1 a2 a3 a4 a5 a6 a7 a8 a9 a10 (xs (1 : Int32).toNatClampNeg)) vL_75 [0] [1] rfl rfl rfl rfl rfl rfl hl.1 rfl (Nat.le_of_ble_eq_true rfl) ⟨Nat.le_of_ble_eq_true rfl, Nat.le_of_ble_eq_true rfl⟩ ⟨Nat.le_of_ble_eq_true rfl, Nat.le_of_ble_eq_true rfl⟩ dL_law_697 (fun r2 u9 H locs hq hW => ?_)
  obtain ⟨rfl, rfl⟩ := hq
  have hW : WD g (AL s) s _ _ [(m0, .inr (12, [.int 0, .ref b1, .int 0, .int 0, .int 0, .int 0, .ref b6, .ref b7, .ref b8, .ref b9, .ref b10, .ref b11, .ref b12, .ref b13, .ref b14, .ref b15, .ref b16, .ref b17, .int 0, .int (-1), .int (-1), .ref b21, .ref b22, .ref b23, .ref b24, .ref b25, .ref b26, .int 0, .ref b28, .ref b29, .ref b30, .ref b31, .ref b32, .ref b33, .ref b34, .ref b35, .ref b36, .int 0, .int 0, .int 0, .int 0, .int 0, .int 0, .int 0, .int 0, .int 0, .ref b46, .ref b47, .ref b48, .ref b49, .ref b50, .ref b51, .ref b52, .ref b53, .ref b54, .ref b55, .ref b56, .ref b57, .ref b58, .ref b59, .ref b60, .ref b61, .ref b62, .ref b63])), (x0, .inr (11, [.ref a0, .ref a1, .ref a2, .ref a3, .ref a4, .ref a5, .ref a6, .ref a7, .ref a8, .ref a9, .ref a10, .int 0, .int 0, .int 0]))] := hW
  refine lv_aload_n (pc := 700) hx hb dL_law_700 rfl (lv_at hl 2 rfl) ?_
  refine lv_aload_n (pc := 701) hx hb dL_law_701 rfl (lv_at hl 0 rfl) ?_
  refine lv_iload (pc := 702) hx hb dL_law_702 (lv_at hl 4 rfl) ?_
  refine lv_iconst (v := 1) (pc := 704) hx hb dL_law_704 (by decide) ?_
  refine lv_iadd (pc := 705) hx hb dL_law_705 ?_
  refine lv_topi (fun v3 ev3 => ?_)
  obtain rfl : v3 = 1 := ev3.trans (by decide +kernel)
  refine va_sld (pc := 706) hx hb hX hbl hbA hW.2.2 (vp_in_nI (n := 1) (by decide) (by decide)) dL_law_706 ?_
  refine c_Vi (pc := 707) (As := [.int (xs (1 : Int32).toNatClampNeg)]) (rest := [.int (-1)]) (wr := [(x0, .inr (11, [.ref a0, .ref a1, .ref a2, .ref a3, .ref a4, .ref a5, .ref a6, .ref a7, .ref a8, .ref a9, .ref a10, .int 0, .int 0, .int 0]))]) X hW 0 ciX12 rfl (C_X12_unlawful l g m0 b1 b6 b7 b8 b9 b10 b11 b12 b13 b14 b15 b16 b17 b21 b22 b23 b24 b25 b26 b28 b29 b30 b31 b32 b33 b34 b35 b36 b46 b47 b48 b49 b50 b51 b52 b53 b54 b55 b56 b57 b58 b59 b60 b61 b62 b63 (xs (1 : Int32).toNatClampNeg)) vL_78 [0] [1] rfl rfl rfl rfl rfl rfl hl.1 rfl (Nat.le_of_ble_eq_true rfl) ⟨Nat.le_of_ble_eq_true rfl, Nat.le_of_ble_eq_true rfl⟩ ⟨Nat.le_of_ble_eq_true rfl, Nat.le_of_ble_eq_true rfl⟩ dL_law_707 (fun r4 u9 H locs hq hW => ?_)
  obtain ⟨rfl, rfl⟩ := hq
  have hW : WD g (AL s) s _ _ [(x0, .inr (11, [.ref a0, .ref a1, .ref a2, .ref a3, .ref a4, .ref a5, .ref a6, .ref a7, .ref a8, .ref a9, .ref a10, .int 0, .int 0, .int 0])), (m0, .inr (12, [.int 0, .ref b1, .int 0, .int 0, .int 0, .int 0, .ref b6, .ref b7, .ref b8, .ref b9, .ref b10, .ref b11, .ref b12, .ref b13, .ref b14, .ref b15, .ref b16, .ref b17, .int 0, .int (-1), .int (-1), .ref b21, .ref b22, .ref b23, .ref b24, .ref b25, .ref b26, .int 0, .ref b28, .ref b29, .ref b30, .ref b31, .ref b32, .ref b33, .ref b34, .ref b35, .ref b36, .int 0, .int 0, .int 0, .int 0, .int 0, .int 0, .int 0, .int 0, .int 0, .ref b46, .ref b47, .ref b48, .ref b49, .ref b50, .ref b51, .ref b52, .ref b53, .ref b54, .ref b55, .ref b56, .ref b57, .ref b58, .ref b59, .ref b60, .ref b61, .ref b62, .ref b63]))] := hW
  refine lv_icmp_eq (tgt := 1865) (pc := 710) hx hb dL_law_710 rfl (fun c5 => ?_) (fun c5 => absurd (by decide) c5)
  exact law_end X hr hX hbl ⟨Nat.le_of_ble_eq_true rfl, Nat.le_of_ble_eq_true rfl⟩ (hW.pick [] rfl rfl) (lv_sub hl [0, 4] rfl)

set_option maxHeartbeats 4000000 in
set_option maxRecDepth 100000 in
theorem law_12 {p : Program} {e : Env} {s : State} {m : MethodId} {below : List Frame} {meth : Method} {c : Code} {l : Launch} {b : Nat} {xs : Nat → Int32} {g : GG} {H : Heap} {locs : List Loc} {ls : Array Slot} {a0 a1 a10 a2 a3 a4 a5 a6 a7 a8 a9 b1 b10 b11 b12 b13 b14 b15 b16 b17 b21 b22 b23 b24 b25 b26 b28 b29 b30 b31 b32 b33 b34 b35 b36 b46 b47 b48 b49 b50 b51 b52 b53 b54 b55 b56 b57 b58 b59 b6 b60 b61 b62 b63 b7 b8 b9 m0 o0 x0 : Nat} (X : CTX p l m meth c cL_law 7 s #[Value.ref b] RL g (AL s)) (hr : meth.sig.returnType = ret) (hX : va_X b 6 xs s s.heap) (hbl : b < s.heap.size) (hW : WD g (AL s) s H locs [(x0, .inr (11, [.ref a0, .ref a1, .ref a2, .ref a3, .ref a4, .ref a5, .ref a6, .ref a7, .ref a8, .ref a9, .ref a10, .int 0, .int 0, .int 0])), (m0, .inr (12, [.int 0, .ref b1, .int 0, .int 0, .int 0, .int 0, .ref b6, .ref b7, .ref b8, .ref b9, .ref b10, .ref b11, .ref b12, .ref b13, .ref b14, .ref b15, .ref b16, .ref b17, .int 0, .int (-1), .int (-1), .ref b21, .ref b22, .ref b23, .ref b24, .ref b25, .ref b26, .int 0, .ref b28, .ref b29, .ref b30, .ref b31, .ref b32, .ref b33, .ref b34, .ref b35, .ref b36, .int 0, .int 0, .int 0, .int 0, .int 0, .int 0, .int 0, .int 0, .int 0, .ref b46, .ref b47, .ref b48, .ref b49, .ref b50, .ref b51, .ref b52, .ref b53, .ref b54, .ref b55, .ref b56, .ref b57, .ref b58, .ref b59, .ref b60, .ref b61, .ref b62, .ref b63]))]) (hl : lv_has ls 7 [(0, .ref b), (1, .ref x0), (2, .ref m0), (3, .ref o0), (4, .int 0)]) : W p l e room_1 s m #[Value.ref b] below meth c H locs 97 615458 (lw_Z below #[Value.ref b] s) (F0 m 715 ls []) := by
  have hx := X.1
  have hb := X.2.1
  have hbA : ¬ (AL s) b := Nat.not_le.mpr hbl
  refine lv_aload_n (pc := 715) hx hb dL_law_715 rfl (lv_at hl 1 rfl) ?_
  refine lv_aload_n (pc := 716) hx hb dL_law_716 rfl (lv_at hl 0 rfl) ?_
  refine lv_iload (pc := 717) hx hb dL_law_717 (lv_at hl 4 rfl) ?_
  refine lv_iconst (v := 1) (pc := 719) hx hb dL_law_719 (by decide) ?_
  refine lv_iadd (pc := 720) hx hb dL_law_720 ?_
  refine lv_topi (fun v1 ev1 => ?_)
  obtain rfl : v1 = 1 := ev1.trans (by decide +kernel)
  refine va_sld (pc := 721) hx hb hX hbl hbA hW.2.2 (vp_in_nI (n := 1) (by decide) (by decide)) dL_law_721 ?_
  refine lv_aload_n (pc := 722) hx hb dL_law_722 rfl (lv_at hl 0 rfl) ?_
  refine lv_iload (pc := 723) hx hb dL_law_723 (lv_at hl 4 rfl) ?_
  refine lv_iconst (v := 2) (pc := 725) hx hb dL_law_725 (by decide) ?_
  refine lv_iadd (pc := 726) hx hb dL_law_726 ?_
  refine lv_topi (fun v2 ev2 => ?_)
  obtain rfl : v2 = 2 := ev2.trans (by decide +kernel)
  refine va_sld (pc := 727) hx hb hX hbl hbA hW.2.2 (vp_in_nI (n := 2) (by decide) (by decide)) dL_law_727 ?_
  refine lv_aload_n (pc := 728) hx hb dL_law_728 rfl (lv_at hl 0 rfl) ?_
  refine lv_iload (pc := 729) hx hb dL_law_729 (lv_at hl 4 rfl) ?_
  refine lv_iconst (v := 3) (pc := 731) hx hb dL_law_731 (by decide) ?_
  refine lv_iadd (pc := 732) hx hb dL_law_732 ?_
  refine lv_topi (fun v3 ev3 => ?_)
  obtain rfl : v3 = 3 := ev3.trans (by decide +kernel)
  refine va_sld (pc := 733) hx hb hX hbl hbA hW.2.2 (vp_in_nI (n := 3) (by decide) (by decide)) dL_law_733 ?_
  refine c_Vi (pc := 734) (As := [.int (xs (1 : Int32).toNatClampNeg), .int (xs (2 : Int32).toNatClampNeg), .int (xs (3 : Int32).toNatClampNeg)]) (rest := []) (wr := [(m0, .inr (12, [.int 0, .ref b1, .int 0, .int 0, .int 0, .int 0, .ref b6, .ref b7, .ref b8, .ref b9, .ref b10, .ref b11, .ref b12, .ref b13, .ref b14, .ref b15, .ref b16, .ref b17, .int 0, .int (-1), .int (-1), .ref b21, .ref b22, .ref b23, .ref b24, .ref b25, .ref b26, .int 0, .ref b28, .ref b29, .ref b30, .ref b31, .ref b32, .ref b33, .ref b34, .ref b35, .ref b36, .int 0, .int 0, .int 0, .int 0, .int 0, .int 0, .int 0, .int 0, .int 0, .ref b46, .ref b47, .ref b48, .ref b49, .ref b50, .ref b51, .ref b52, .ref b53, .ref b54, .ref b55, .ref b56, .ref b57, .ref b58, .ref b59, .ref b60, .ref b61, .ref b62, .ref b63]))]) X hW 0 ciX11 rfl (C_X11_known l g x0 a0 a1 a2 a3 a4 a5 a6 a7 a8 a9 a10 (xs (1 : Int32).toNatClampNeg) (xs (2 : Int32).toNatClampNeg) (xs (3 : Int32).toNatClampNeg)) vL_79 [0] [1] rfl rfl rfl rfl rfl rfl hl.1 rfl (Nat.le_of_ble_eq_true rfl) ⟨Nat.le_of_ble_eq_true rfl, Nat.le_of_ble_eq_true rfl⟩ ⟨Nat.le_of_ble_eq_true rfl, Nat.le_of_ble_eq_true rfl⟩ dL_law_734 (fun r4 u9 H locs hq hW => ?_)
  obtain ⟨rfl, rfl⟩ := hq
  have hW : WD g (AL s) s _ _ [(m0, .inr (12, [.int 0, .ref b1, .int 0, .int 0, .int 0, .int 0, .ref b6, .ref b7, .ref b8, .ref b9, .ref b10, .ref b11, .ref b12, .ref b13, .ref b14, .ref b15, .ref b16, .ref b17, .int 0, .int (-1), .int (-1), .ref b21, .ref b22, .ref b23, .ref b24, .ref b25, .ref b26, .int 0, .ref b28, .ref b29, .ref b30, .ref b31, .ref b32, .ref b33, .ref b34, .ref b35, .ref b36, .int 0, .int 0, .int 0, .int 0, .int 0, .int 0, .int 0, .int 0, .int 0, .ref b46, .ref b47, .ref b48, .ref b49, .ref b50, .ref b51, .ref b52, .ref b53, .ref b54, .ref b55, .ref b56, .ref b57, .ref b58, .ref b59, .ref b60, .ref b61, .ref b62, .ref b63])), (x0, .inr (11, [.ref a0, .ref a1, .ref a2, .ref a3, .ref a4, .ref a5, .ref a6, .ref a7, .ref a8, .ref a9, .ref a10, .int 0, .int 0, .int 0]))] := hW
  refine lv_aload_n (pc := 737) hx hb dL_law_737 rfl (lv_at hl 2 rfl) ?_
  refine lv_aload_n (pc := 738) hx hb dL_law_738 rfl (lv_at hl 0 rfl) ?_
  refine lv_iload (pc := 739) hx hb dL_law_739 (lv_at hl 4 rfl) ?_
  refine lv_iconst (v := 1) (pc := 741) hx hb dL_law_741 (by decide) ?_
  refine lv_iadd (pc := 742) hx hb dL_law_742 ?_
  refine lv_topi (fun v5 ev5 => ?_)
  obtain rfl : v5 = 1 := ev5.trans (by decide +kernel)
  refine va_sld (pc := 743) hx hb hX hbl hbA hW.2.2 (vp_in_nI (n := 1) (by decide) (by decide)) dL_law_743 ?_
  refine lv_aload_n (pc := 744) hx hb dL_law_744 rfl (lv_at hl 0 rfl) ?_
  refine lv_iload (pc := 745) hx hb dL_law_745 (lv_at hl 4 rfl) ?_
  refine lv_iconst (v := 2) (pc := 747) hx hb dL_law_747 (by decide) ?_
  refine lv_iadd (pc := 748) hx hb dL_law_748 ?_
  refine lv_topi (fun v6 ev6 => ?_)
  obtain rfl : v6 = 2 := ev6.trans (by decide +kernel)
  refine va_sld (pc := 749) hx hb hX hbl hbA hW.2.2 (vp_in_nI (n := 2) (by decide) (by decide)) dL_law_749 ?_
  refine lv_aload_n (pc := 750) hx hb dL_law_750 rfl (lv_at hl 0 rfl) ?_
  refine lv_iload (pc := 751) hx hb dL_law_751 (lv_at hl 4 rfl) ?_
  refine lv_iconst (v := 3) (pc := 753) hx hb dL_law_753 (by decide) ?_
  refine lv_iadd (pc := 754) hx hb dL_law_754 ?_
  refine lv_topi (fun v7 ev7 => ?_)
  obtain rfl : v7 = 3 := ev7.trans (by decide +kernel)
  refine va_sld (pc := 755) hx hb hX hbl hbA hW.2.2 (vp_in_nI (n := 3) (by decide) (by decide)) dL_law_755 ?_
  refine c_Vi (pc := 756) (As := [.int (xs (1 : Int32).toNatClampNeg), .int (xs (2 : Int32).toNatClampNeg), .int (xs (3 : Int32).toNatClampNeg)]) (rest := [.int (-1)]) (wr := [(x0, .inr (11, [.ref a0, .ref a1, .ref a2, .ref a3, .ref a4, .ref a5, .ref a6, .ref a7, .ref a8, .ref a9, .ref a10, .int 0, .int 0, .int 0]))]) X hW 0 ciX12 rfl (C_X12_known l g m0 b1 b6 b7 b8 b9 b10 b11 b12 b13 b14 b15 b16 b17 b21 b22 b23 b24 b25 b26 b28 b29 b30 b31 b32 b33 b34 b35 b36 b46 b47 b48 b49 b50 b51 b52 b53 b54 b55 b56 b57 b58 b59 b60 b61 b62 b63 (xs (1 : Int32).toNatClampNeg) (xs (2 : Int32).toNatClampNeg) (xs (3 : Int32).toNatClampNeg)) vL_82 [0] [1] rfl rfl rfl rfl rfl rfl hl.1 rfl (Nat.le_of_ble_eq_true rfl) ⟨Nat.le_of_ble_eq_true rfl, Nat.le_of_ble_eq_true rfl⟩ ⟨Nat.le_of_ble_eq_true rfl, Nat.le_of_ble_eq_true rfl⟩ dL_law_756 (fun r8 u9 H locs hq hW => ?_)
  obtain ⟨rfl, rfl⟩ := hq
  have hW : WD g (AL s) s _ _ [(x0, .inr (11, [.ref a0, .ref a1, .ref a2, .ref a3, .ref a4, .ref a5, .ref a6, .ref a7, .ref a8, .ref a9, .ref a10, .int 0, .int 0, .int 0])), (m0, .inr (12, [.int 0, .ref b1, .int 0, .int 0, .int 0, .int 0, .ref b6, .ref b7, .ref b8, .ref b9, .ref b10, .ref b11, .ref b12, .ref b13, .ref b14, .ref b15, .ref b16, .ref b17, .int 0, .int (-1), .int (-1), .ref b21, .ref b22, .ref b23, .ref b24, .ref b25, .ref b26, .int 0, .ref b28, .ref b29, .ref b30, .ref b31, .ref b32, .ref b33, .ref b34, .ref b35, .ref b36, .int 0, .int 0, .int 0, .int 0, .int 0, .int 0, .int 0, .int 0, .int 0, .ref b46, .ref b47, .ref b48, .ref b49, .ref b50, .ref b51, .ref b52, .ref b53, .ref b54, .ref b55, .ref b56, .ref b57, .ref b58, .ref b59, .ref b60, .ref b61, .ref b62, .ref b63]))] := hW
  refine lv_icmp_eq (tgt := 1865) (pc := 759) hx hb dL_law_759 rfl (fun c9 => ?_) (fun c9 => absurd (by decide) c9)
  exact law_end X hr hX hbl ⟨Nat.le_of_ble_eq_true rfl, Nat.le_of_ble_eq_true rfl⟩ (hW.pick [] rfl rfl) (lv_sub hl [0, 4] rfl)

set_option maxHeartbeats 4000000 in
set_option maxRecDepth 100000 in
theorem law_13 {p : Program} {e : Env} {s : State} {m : MethodId} {below : List Frame} {meth : Method} {c : Code} {l : Launch} {b : Nat} {xs : Nat → Int32} {g : GG} {H : Heap} {locs : List Loc} {ls : Array Slot} {a0 a1 a10 a2 a3 a4 a5 a6 a7 a8 a9 b1 b10 b11 b12 b13 b14 b15 b16 b17 b21 b22 b23 b24 b25 b26 b28 b29 b30 b31 b32 b33 b34 b35 b36 b46 b47 b48 b49 b50 b51 b52 b53 b54 b55 b56 b57 b58 b59 b6 b60 b61 b62 b63 b7 b8 b9 m0 o0 x0 : Nat} (X : CTX p l m meth c cL_law 7 s #[Value.ref b] RL g (AL s)) (hr : meth.sig.returnType = ret) (hX : va_X b 6 xs s s.heap) (hbl : b < s.heap.size) (hW : WD g (AL s) s H locs [(x0, .inr (11, [.ref a0, .ref a1, .ref a2, .ref a3, .ref a4, .ref a5, .ref a6, .ref a7, .ref a8, .ref a9, .ref a10, .int 0, .int 0, .int 0])), (m0, .inr (12, [.int 0, .ref b1, .int 0, .int 0, .int 0, .int 0, .ref b6, .ref b7, .ref b8, .ref b9, .ref b10, .ref b11, .ref b12, .ref b13, .ref b14, .ref b15, .ref b16, .ref b17, .int 0, .int (-1), .int (-1), .ref b21, .ref b22, .ref b23, .ref b24, .ref b25, .ref b26, .int 0, .ref b28, .ref b29, .ref b30, .ref b31, .ref b32, .ref b33, .ref b34, .ref b35, .ref b36, .int 0, .int 0, .int 0, .int 0, .int 0, .int 0, .int 0, .int 0, .int 0, .ref b46, .ref b47, .ref b48, .ref b49, .ref b50, .ref b51, .ref b52, .ref b53, .ref b54, .ref b55, .ref b56, .ref b57, .ref b58, .ref b59, .ref b60, .ref b61, .ref b62, .ref b63]))]) (hl : lv_has ls 7 [(0, .ref b), (1, .ref x0), (2, .ref m0), (3, .ref o0), (4, .int 0)]) : W p l e room_1 s m #[Value.ref b] below meth c H locs 97 615458 (lw_Z below #[Value.ref b] s) (F0 m 764 ls []) := by
  have hx := X.1
  have hb := X.2.1
  have hbA : ¬ (AL s) b := Nat.not_le.mpr hbl
  refine lv_aload_n (pc := 764) hx hb dL_law_764 rfl (lv_at hl 1 rfl) ?_
  refine lv_aload_n (pc := 765) hx hb dL_law_765 rfl (lv_at hl 0 rfl) ?_
  refine lv_iload (pc := 766) hx hb dL_law_766 (lv_at hl 4 rfl) ?_
  refine lv_iconst (v := 1) (pc := 768) hx hb dL_law_768 (by decide) ?_
  refine lv_iadd (pc := 769) hx hb dL_law_769 ?_
  refine lv_topi (fun v1 ev1 => ?_)
  obtain rfl : v1 = 1 := ev1.trans (by decide +kernel)
  refine va_sld (pc := 770) hx hb hX hbl hbA hW.2.2 (vp_in_nI (n := 1) (by decide) (by decide)) dL_law_770 ?_
  refine lv_aload_n (pc := 771) hx hb dL_law_771 rfl (lv_at hl 0 rfl) ?_
  refine lv_iload (pc := 772) hx hb dL_law_772 (lv_at hl 4 rfl) ?_
  refine lv_iconst (v := 2) (pc := 774) hx hb dL_law_774 (by decide) ?_
  refine lv_iadd (pc := 775) hx hb dL_law_775 ?_
  refine lv_topi (fun v2 ev2 => ?_)
  obtain rfl : v2 = 2 := ev2.trans (by decide +kernel)
  refine va_sld (pc := 776) hx hb hX hbl hbA hW.2.2 (vp_in_nI (n := 2) (by decide) (by decide)) dL_law_776 ?_
  refine lv_aload_n (pc := 777) hx hb dL_law_777 rfl (lv_at hl 0 rfl) ?_
  refine lv_iload (pc := 778) hx hb dL_law_778 (lv_at hl 4 rfl) ?_
  refine lv_iconst (v := 3) (pc := 780) hx hb dL_law_780 (by decide) ?_
  refine lv_iadd (pc := 781) hx hb dL_law_781 ?_
  refine lv_topi (fun v3 ev3 => ?_)
  obtain rfl : v3 = 3 := ev3.trans (by decide +kernel)
  refine va_sld (pc := 782) hx hb hX hbl hbA hW.2.2 (vp_in_nI (n := 3) (by decide) (by decide)) dL_law_782 ?_
  refine c_Vi (pc := 783) (As := [.int (xs (1 : Int32).toNatClampNeg), .int (xs (2 : Int32).toNatClampNeg), .int (xs (3 : Int32).toNatClampNeg)]) (rest := []) (wr := [(m0, .inr (12, [.int 0, .ref b1, .int 0, .int 0, .int 0, .int 0, .ref b6, .ref b7, .ref b8, .ref b9, .ref b10, .ref b11, .ref b12, .ref b13, .ref b14, .ref b15, .ref b16, .ref b17, .int 0, .int (-1), .int (-1), .ref b21, .ref b22, .ref b23, .ref b24, .ref b25, .ref b26, .int 0, .ref b28, .ref b29, .ref b30, .ref b31, .ref b32, .ref b33, .ref b34, .ref b35, .ref b36, .int 0, .int 0, .int 0, .int 0, .int 0, .int 0, .int 0, .int 0, .int 0, .ref b46, .ref b47, .ref b48, .ref b49, .ref b50, .ref b51, .ref b52, .ref b53, .ref b54, .ref b55, .ref b56, .ref b57, .ref b58, .ref b59, .ref b60, .ref b61, .ref b62, .ref b63]))]) X hW 0 ciX11 rfl (C_X11_together l g x0 a0 a1 a2 a3 a4 a5 a6 a7 a8 a9 a10 (xs (1 : Int32).toNatClampNeg) (xs (2 : Int32).toNatClampNeg) (xs (3 : Int32).toNatClampNeg)) vL_83 [0] [1] rfl rfl rfl rfl rfl rfl hl.1 rfl (Nat.le_of_ble_eq_true rfl) ⟨Nat.le_of_ble_eq_true rfl, Nat.le_of_ble_eq_true rfl⟩ ⟨Nat.le_of_ble_eq_true rfl, Nat.le_of_ble_eq_true rfl⟩ dL_law_783 (fun r4 u9 H locs hq hW => ?_)
  obtain ⟨rfl, rfl⟩ := hq
  have hW : WD g (AL s) s _ _ [(m0, .inr (12, [.int 0, .ref b1, .int 0, .int 0, .int 0, .int 0, .ref b6, .ref b7, .ref b8, .ref b9, .ref b10, .ref b11, .ref b12, .ref b13, .ref b14, .ref b15, .ref b16, .ref b17, .int 0, .int (-1), .int (-1), .ref b21, .ref b22, .ref b23, .ref b24, .ref b25, .ref b26, .int 0, .ref b28, .ref b29, .ref b30, .ref b31, .ref b32, .ref b33, .ref b34, .ref b35, .ref b36, .int 0, .int 0, .int 0, .int 0, .int 0, .int 0, .int 0, .int 0, .int 0, .ref b46, .ref b47, .ref b48, .ref b49, .ref b50, .ref b51, .ref b52, .ref b53, .ref b54, .ref b55, .ref b56, .ref b57, .ref b58, .ref b59, .ref b60, .ref b61, .ref b62, .ref b63])), (x0, .inr (11, [.ref a0, .ref a1, .ref a2, .ref a3, .ref a4, .ref a5, .ref a6, .ref a7, .ref a8, .ref a9, .ref a10, .int 0, .int 0, .int 0]))] := hW
  refine lv_aload_n (pc := 786) hx hb dL_law_786 rfl (lv_at hl 2 rfl) ?_
  refine lv_aload_n (pc := 787) hx hb dL_law_787 rfl (lv_at hl 0 rfl) ?_
  refine lv_iload (pc := 788) hx hb dL_law_788 (lv_at hl 4 rfl) ?_
  refine lv_iconst (v := 1) (pc := 790) hx hb dL_law_790 (by decide) ?_
  refine lv_iadd (pc := 791) hx hb dL_law_791 ?_
  refine lv_topi (fun v5 ev5 => ?_)
  obtain rfl : v5 = 1 := ev5.trans (by decide +kernel)
  refine va_sld (pc := 792) hx hb hX hbl hbA hW.2.2 (vp_in_nI (n := 1) (by decide) (by decide)) dL_law_792 ?_
  refine lv_aload_n (pc := 793) hx hb dL_law_793 rfl (lv_at hl 0 rfl) ?_
  refine lv_iload (pc := 794) hx hb dL_law_794 (lv_at hl 4 rfl) ?_
  refine lv_iconst (v := 2) (pc := 796) hx hb dL_law_796 (by decide) ?_
  refine lv_iadd (pc := 797) hx hb dL_law_797 ?_
  refine lv_topi (fun v6 ev6 => ?_)
  obtain rfl : v6 = 2 := ev6.trans (by decide +kernel)
  refine va_sld (pc := 798) hx hb hX hbl hbA hW.2.2 (vp_in_nI (n := 2) (by decide) (by decide)) dL_law_798 ?_
  refine lv_aload_n (pc := 799) hx hb dL_law_799 rfl (lv_at hl 0 rfl) ?_
  refine lv_iload (pc := 800) hx hb dL_law_800 (lv_at hl 4 rfl) ?_
  refine lv_iconst (v := 3) (pc := 802) hx hb dL_law_802 (by decide) ?_
  refine lv_iadd (pc := 803) hx hb dL_law_803 ?_
  refine lv_topi (fun v7 ev7 => ?_)
  obtain rfl : v7 = 3 := ev7.trans (by decide +kernel)
  refine va_sld (pc := 804) hx hb hX hbl hbA hW.2.2 (vp_in_nI (n := 3) (by decide) (by decide)) dL_law_804 ?_
  refine c_Vi (pc := 805) (As := [.int (xs (1 : Int32).toNatClampNeg), .int (xs (2 : Int32).toNatClampNeg), .int (xs (3 : Int32).toNatClampNeg)]) (rest := [.int (-1)]) (wr := [(x0, .inr (11, [.ref a0, .ref a1, .ref a2, .ref a3, .ref a4, .ref a5, .ref a6, .ref a7, .ref a8, .ref a9, .ref a10, .int 0, .int 0, .int 0]))]) X hW 0 ciX12 rfl (C_X12_together l g m0 b1 b6 b7 b8 b9 b10 b11 b12 b13 b14 b15 b16 b17 b21 b22 b23 b24 b25 b26 b28 b29 b30 b31 b32 b33 b34 b35 b36 b46 b47 b48 b49 b50 b51 b52 b53 b54 b55 b56 b57 b58 b59 b60 b61 b62 b63 (xs (1 : Int32).toNatClampNeg) (xs (2 : Int32).toNatClampNeg) (xs (3 : Int32).toNatClampNeg)) vL_86 [0] [1] rfl rfl rfl rfl rfl rfl hl.1 rfl (Nat.le_of_ble_eq_true rfl) ⟨Nat.le_of_ble_eq_true rfl, Nat.le_of_ble_eq_true rfl⟩ ⟨Nat.le_of_ble_eq_true rfl, Nat.le_of_ble_eq_true rfl⟩ dL_law_805 (fun r8 u9 H locs hq hW => ?_)
  obtain ⟨rfl, rfl⟩ := hq
  have hW : WD g (AL s) s _ _ [(x0, .inr (11, [.ref a0, .ref a1, .ref a2, .ref a3, .ref a4, .ref a5, .ref a6, .ref a7, .ref a8, .ref a9, .ref a10, .int 0, .int 0, .int 0])), (m0, .inr (12, [.int 0, .ref b1, .int 0, .int 0, .int 0, .int 0, .ref b6, .ref b7, .ref b8, .ref b9, .ref b10, .ref b11, .ref b12, .ref b13, .ref b14, .ref b15, .ref b16, .ref b17, .int 0, .int (-1), .int (-1), .ref b21, .ref b22, .ref b23, .ref b24, .ref b25, .ref b26, .int 0, .ref b28, .ref b29, .ref b30, .ref b31, .ref b32, .ref b33, .ref b34, .ref b35, .ref b36, .int 0, .int 0, .int 0, .int 0, .int 0, .int 0, .int 0, .int 0, .int 0, .ref b46, .ref b47, .ref b48, .ref b49, .ref b50, .ref b51, .ref b52, .ref b53, .ref b54, .ref b55, .ref b56, .ref b57, .ref b58, .ref b59, .ref b60, .ref b61, .ref b62, .ref b63]))] := hW
  refine lv_icmp_eq (tgt := 1865) (pc := 808) hx hb dL_law_808 rfl (fun c9 => ?_) (fun c9 => absurd (by decide) c9)
  exact law_end X hr hX hbl ⟨Nat.le_of_ble_eq_true rfl, Nat.le_of_ble_eq_true rfl⟩ (hW.pick [] rfl rfl) (lv_sub hl [0, 4] rfl)

set_option maxHeartbeats 4000000 in
set_option maxRecDepth 100000 in
theorem law_14 {p : Program} {e : Env} {s : State} {m : MethodId} {below : List Frame} {meth : Method} {c : Code} {l : Launch} {b : Nat} {xs : Nat → Int32} {g : GG} {H : Heap} {locs : List Loc} {ls : Array Slot} {a0 a1 a10 a2 a3 a4 a5 a6 a7 a8 a9 b1 b10 b11 b12 b13 b14 b15 b16 b17 b21 b22 b23 b24 b25 b26 b28 b29 b30 b31 b32 b33 b34 b35 b36 b46 b47 b48 b49 b50 b51 b52 b53 b54 b55 b56 b57 b58 b59 b6 b60 b61 b62 b63 b7 b8 b9 m0 o0 x0 : Nat} (X : CTX p l m meth c cL_law 7 s #[Value.ref b] RL g (AL s)) (hr : meth.sig.returnType = ret) (hX : va_X b 6 xs s s.heap) (hbl : b < s.heap.size) (hW : WD g (AL s) s H locs [(x0, .inr (11, [.ref a0, .ref a1, .ref a2, .ref a3, .ref a4, .ref a5, .ref a6, .ref a7, .ref a8, .ref a9, .ref a10, .int 0, .int 0, .int 0])), (m0, .inr (12, [.int 0, .ref b1, .int 0, .int 0, .int 0, .int 0, .ref b6, .ref b7, .ref b8, .ref b9, .ref b10, .ref b11, .ref b12, .ref b13, .ref b14, .ref b15, .ref b16, .ref b17, .int 0, .int (-1), .int (-1), .ref b21, .ref b22, .ref b23, .ref b24, .ref b25, .ref b26, .int 0, .ref b28, .ref b29, .ref b30, .ref b31, .ref b32, .ref b33, .ref b34, .ref b35, .ref b36, .int 0, .int 0, .int 0, .int 0, .int 0, .int 0, .int 0, .int 0, .int 0, .ref b46, .ref b47, .ref b48, .ref b49, .ref b50, .ref b51, .ref b52, .ref b53, .ref b54, .ref b55, .ref b56, .ref b57, .ref b58, .ref b59, .ref b60, .ref b61, .ref b62, .ref b63]))]) (hl : lv_has ls 7 [(0, .ref b), (1, .ref x0), (2, .ref m0), (3, .ref o0), (4, .int 0)]) : W p l e room_1 s m #[Value.ref b] below meth c H locs 97 615458 (lw_Z below #[Value.ref b] s) (F0 m 813 ls []) := by
  have hx := X.1
  have hb := X.2.1
  have hbA : ¬ (AL s) b := Nat.not_le.mpr hbl
  refine lv_aload_n (pc := 813) hx hb dL_law_813 rfl (lv_at hl 1 rfl) ?_
  refine lv_aload_n (pc := 814) hx hb dL_law_814 rfl (lv_at hl 0 rfl) ?_
  refine lv_iload (pc := 815) hx hb dL_law_815 (lv_at hl 4 rfl) ?_
  refine lv_iconst (v := 1) (pc := 817) hx hb dL_law_817 (by decide) ?_
  refine lv_iadd (pc := 818) hx hb dL_law_818 ?_
  refine lv_topi (fun v1 ev1 => ?_)
  obtain rfl : v1 = 1 := ev1.trans (by decide +kernel)
  refine va_sld (pc := 819) hx hb hX hbl hbA hW.2.2 (vp_in_nI (n := 1) (by decide) (by decide)) dL_law_819 ?_
  refine lv_aload_n (pc := 820) hx hb dL_law_820 rfl (lv_at hl 0 rfl) ?_
  refine lv_iload (pc := 821) hx hb dL_law_821 (lv_at hl 4 rfl) ?_
  refine lv_iconst (v := 2) (pc := 823) hx hb dL_law_823 (by decide) ?_
  refine lv_iadd (pc := 824) hx hb dL_law_824 ?_
  refine lv_topi (fun v2 ev2 => ?_)
  obtain rfl : v2 = 2 := ev2.trans (by decide +kernel)
  refine va_sld (pc := 825) hx hb hX hbl hbA hW.2.2 (vp_in_nI (n := 2) (by decide) (by decide)) dL_law_825 ?_
  refine c_Vi (pc := 826) (As := [.int (xs (1 : Int32).toNatClampNeg), .int (xs (2 : Int32).toNatClampNeg)]) (rest := []) (wr := [(m0, .inr (12, [.int 0, .ref b1, .int 0, .int 0, .int 0, .int 0, .ref b6, .ref b7, .ref b8, .ref b9, .ref b10, .ref b11, .ref b12, .ref b13, .ref b14, .ref b15, .ref b16, .ref b17, .int 0, .int (-1), .int (-1), .ref b21, .ref b22, .ref b23, .ref b24, .ref b25, .ref b26, .int 0, .ref b28, .ref b29, .ref b30, .ref b31, .ref b32, .ref b33, .ref b34, .ref b35, .ref b36, .int 0, .int 0, .int 0, .int 0, .int 0, .int 0, .int 0, .int 0, .int 0, .ref b46, .ref b47, .ref b48, .ref b49, .ref b50, .ref b51, .ref b52, .ref b53, .ref b54, .ref b55, .ref b56, .ref b57, .ref b58, .ref b59, .ref b60, .ref b61, .ref b62, .ref b63]))]) X hW 0 ciX11 rfl (C_X11_when l g x0 a0 a1 a2 a3 a4 a5 a6 a7 a8 a9 a10 (xs (1 : Int32).toNatClampNeg) (xs (2 : Int32).toNatClampNeg)) vL_87 [0] [1] rfl rfl rfl rfl rfl rfl hl.1 rfl (Nat.le_of_ble_eq_true rfl) ⟨Nat.le_of_ble_eq_true rfl, Nat.le_of_ble_eq_true rfl⟩ ⟨Nat.le_of_ble_eq_true rfl, Nat.le_of_ble_eq_true rfl⟩ dL_law_826 (fun r3 u9 H locs hq hW => ?_)
  obtain ⟨rfl, rfl⟩ := hq
  have hW : WD g (AL s) s _ _ [(m0, .inr (12, [.int 0, .ref b1, .int 0, .int 0, .int 0, .int 0, .ref b6, .ref b7, .ref b8, .ref b9, .ref b10, .ref b11, .ref b12, .ref b13, .ref b14, .ref b15, .ref b16, .ref b17, .int 0, .int (-1), .int (-1), .ref b21, .ref b22, .ref b23, .ref b24, .ref b25, .ref b26, .int 0, .ref b28, .ref b29, .ref b30, .ref b31, .ref b32, .ref b33, .ref b34, .ref b35, .ref b36, .int 0, .int 0, .int 0, .int 0, .int 0, .int 0, .int 0, .int 0, .int 0, .ref b46, .ref b47, .ref b48, .ref b49, .ref b50, .ref b51, .ref b52, .ref b53, .ref b54, .ref b55, .ref b56, .ref b57, .ref b58, .ref b59, .ref b60, .ref b61, .ref b62, .ref b63])), (x0, .inr (11, [.ref a0, .ref a1, .ref a2, .ref a3, .ref a4, .ref a5, .ref a6, .ref a7, .ref a8, .ref a9, .ref a10, .int 0, .int 0, .int 0]))] := hW
  refine lv_aload_n (pc := 829) hx hb dL_law_829 rfl (lv_at hl 2 rfl) ?_
  refine lv_aload_n (pc := 830) hx hb dL_law_830 rfl (lv_at hl 0 rfl) ?_
  refine lv_iload (pc := 831) hx hb dL_law_831 (lv_at hl 4 rfl) ?_
  refine lv_iconst (v := 1) (pc := 833) hx hb dL_law_833 (by decide) ?_
  refine lv_iadd (pc := 834) hx hb dL_law_834 ?_
  refine lv_topi (fun v4 ev4 => ?_)
  obtain rfl : v4 = 1 := ev4.trans (by decide +kernel)
  refine va_sld (pc := 835) hx hb hX hbl hbA hW.2.2 (vp_in_nI (n := 1) (by decide) (by decide)) dL_law_835 ?_
  refine lv_aload_n (pc := 836) hx hb dL_law_836 rfl (lv_at hl 0 rfl) ?_
  refine lv_iload (pc := 837) hx hb dL_law_837 (lv_at hl 4 rfl) ?_
  refine lv_iconst (v := 2) (pc := 839) hx hb dL_law_839 (by decide) ?_
  refine lv_iadd (pc := 840) hx hb dL_law_840 ?_
  refine lv_topi (fun v5 ev5 => ?_)
  obtain rfl : v5 = 2 := ev5.trans (by decide +kernel)
  refine va_sld (pc := 841) hx hb hX hbl hbA hW.2.2 (vp_in_nI (n := 2) (by decide) (by decide)) dL_law_841 ?_
  refine c_Vi (pc := 842) (As := [.int (xs (1 : Int32).toNatClampNeg), .int (xs (2 : Int32).toNatClampNeg)]) (rest := [.int (-1)]) (wr := [(x0, .inr (11, [.ref a0, .ref a1, .ref a2, .ref a3, .ref a4, .ref a5, .ref a6, .ref a7, .ref a8, .ref a9, .ref a10, .int 0, .int 0, .int 0]))]) X hW 0 ciX12 rfl (C_X12_when l g m0 b1 b6 b7 b8 b9 b10 b11 b12 b13 b14 b15 b16 b17 b21 b22 b23 b24 b25 b26 b28 b29 b30 b31 b32 b33 b34 b35 b36 b46 b47 b48 b49 b50 b51 b52 b53 b54 b55 b56 b57 b58 b59 b60 b61 b62 b63 (xs (1 : Int32).toNatClampNeg) (xs (2 : Int32).toNatClampNeg)) vL_90 [0] [1] rfl rfl rfl rfl rfl rfl hl.1 rfl (Nat.le_of_ble_eq_true rfl) ⟨Nat.le_of_ble_eq_true rfl, Nat.le_of_ble_eq_true rfl⟩ ⟨Nat.le_of_ble_eq_true rfl, Nat.le_of_ble_eq_true rfl⟩ dL_law_842 (fun r6 u9 H locs hq hW => ?_)
  obtain ⟨rfl, rfl⟩ := hq
  have hW : WD g (AL s) s _ _ [(x0, .inr (11, [.ref a0, .ref a1, .ref a2, .ref a3, .ref a4, .ref a5, .ref a6, .ref a7, .ref a8, .ref a9, .ref a10, .int 0, .int 0, .int 0])), (m0, .inr (12, [.int 0, .ref b1, .int 0, .int 0, .int 0, .int 0, .ref b6, .ref b7, .ref b8, .ref b9, .ref b10, .ref b11, .ref b12, .ref b13, .ref b14, .ref b15, .ref b16, .ref b17, .int 0, .int (-1), .int (-1), .ref b21, .ref b22, .ref b23, .ref b24, .ref b25, .ref b26, .int 0, .ref b28, .ref b29, .ref b30, .ref b31, .ref b32, .ref b33, .ref b34, .ref b35, .ref b36, .int 0, .int 0, .int 0, .int 0, .int 0, .int 0, .int 0, .int 0, .int 0, .ref b46, .ref b47, .ref b48, .ref b49, .ref b50, .ref b51, .ref b52, .ref b53, .ref b54, .ref b55, .ref b56, .ref b57, .ref b58, .ref b59, .ref b60, .ref b61, .ref b62, .ref b63]))] := hW
  refine lv_icmp_eq (tgt := 1865) (pc := 845) hx hb dL_law_845 rfl (fun c7 => ?_) (fun c7 => absurd (by decide) c7)
  exact law_end X hr hX hbl ⟨Nat.le_of_ble_eq_true rfl, Nat.le_of_ble_eq_true rfl⟩ (hW.pick [] rfl rfl) (lv_sub hl [0, 4] rfl)

set_option maxHeartbeats 4000000 in
set_option maxRecDepth 100000 in
theorem law_15 {p : Program} {e : Env} {s : State} {m : MethodId} {below : List Frame} {meth : Method} {c : Code} {l : Launch} {b : Nat} {xs : Nat → Int32} {g : GG} {H : Heap} {locs : List Loc} {ls : Array Slot} {a0 a1 a10 a2 a3 a4 a5 a6 a7 a8 a9 b1 b10 b11 b12 b13 b14 b15 b16 b17 b21 b22 b23 b24 b25 b26 b28 b29 b30 b31 b32 b33 b34 b35 b36 b46 b47 b48 b49 b50 b51 b52 b53 b54 b55 b56 b57 b58 b59 b6 b60 b61 b62 b63 b7 b8 b9 m0 o0 x0 : Nat} (X : CTX p l m meth c cL_law 7 s #[Value.ref b] RL g (AL s)) (hr : meth.sig.returnType = ret) (hX : va_X b 6 xs s s.heap) (hbl : b < s.heap.size) (hW : WD g (AL s) s H locs [(x0, .inr (11, [.ref a0, .ref a1, .ref a2, .ref a3, .ref a4, .ref a5, .ref a6, .ref a7, .ref a8, .ref a9, .ref a10, .int 0, .int 0, .int 0])), (m0, .inr (12, [.int 0, .ref b1, .int 0, .int 0, .int 0, .int 0, .ref b6, .ref b7, .ref b8, .ref b9, .ref b10, .ref b11, .ref b12, .ref b13, .ref b14, .ref b15, .ref b16, .ref b17, .int 0, .int (-1), .int (-1), .ref b21, .ref b22, .ref b23, .ref b24, .ref b25, .ref b26, .int 0, .ref b28, .ref b29, .ref b30, .ref b31, .ref b32, .ref b33, .ref b34, .ref b35, .ref b36, .int 0, .int 0, .int 0, .int 0, .int 0, .int 0, .int 0, .int 0, .int 0, .ref b46, .ref b47, .ref b48, .ref b49, .ref b50, .ref b51, .ref b52, .ref b53, .ref b54, .ref b55, .ref b56, .ref b57, .ref b58, .ref b59, .ref b60, .ref b61, .ref b62, .ref b63]))]) (hl : lv_has ls 7 [(0, .ref b), (1, .ref x0), (2, .ref m0), (3, .ref o0), (4, .int 0)]) : W p l e room_1 s m #[Value.ref b] below meth c H locs 97 615458 (lw_Z below #[Value.ref b] s) (F0 m 850 ls []) := by
  have hx := X.1
  have hb := X.2.1
  have hbA : ¬ (AL s) b := Nat.not_le.mpr hbl
  refine lv_aload_n (pc := 850) hx hb dL_law_850 rfl (lv_at hl 1 rfl) ?_
  refine lv_aload_n (pc := 851) hx hb dL_law_851 rfl (lv_at hl 0 rfl) ?_
  refine lv_iload (pc := 852) hx hb dL_law_852 (lv_at hl 4 rfl) ?_
  refine lv_iconst (v := 1) (pc := 854) hx hb dL_law_854 (by decide) ?_
  refine lv_iadd (pc := 855) hx hb dL_law_855 ?_
  refine lv_topi (fun v1 ev1 => ?_)
  obtain rfl : v1 = 1 := ev1.trans (by decide +kernel)
  refine va_sld (pc := 856) hx hb hX hbl hbA hW.2.2 (vp_in_nI (n := 1) (by decide) (by decide)) dL_law_856 ?_
  refine lv_aload_n (pc := 857) hx hb dL_law_857 rfl (lv_at hl 0 rfl) ?_
  refine lv_iload (pc := 858) hx hb dL_law_858 (lv_at hl 4 rfl) ?_
  refine lv_iconst (v := 2) (pc := 860) hx hb dL_law_860 (by decide) ?_
  refine lv_iadd (pc := 861) hx hb dL_law_861 ?_
  refine lv_topi (fun v2 ev2 => ?_)
  obtain rfl : v2 = 2 := ev2.trans (by decide +kernel)
  refine va_sld (pc := 862) hx hb hX hbl hbA hW.2.2 (vp_in_nI (n := 2) (by decide) (by decide)) dL_law_862 ?_
  refine lv_aload_n (pc := 863) hx hb dL_law_863 rfl (lv_at hl 0 rfl) ?_
  refine lv_iload (pc := 864) hx hb dL_law_864 (lv_at hl 4 rfl) ?_
  refine lv_iconst (v := 3) (pc := 866) hx hb dL_law_866 (by decide) ?_
  refine lv_iadd (pc := 867) hx hb dL_law_867 ?_
  refine lv_topi (fun v3 ev3 => ?_)
  obtain rfl : v3 = 3 := ev3.trans (by decide +kernel)
  refine va_sld (pc := 868) hx hb hX hbl hbA hW.2.2 (vp_in_nI (n := 3) (by decide) (by decide)) dL_law_868 ?_
  refine c_Vi (pc := 869) (As := [.int (xs (1 : Int32).toNatClampNeg), .int (xs (2 : Int32).toNatClampNeg), .int (xs (3 : Int32).toNatClampNeg)]) (rest := []) (wr := [(m0, .inr (12, [.int 0, .ref b1, .int 0, .int 0, .int 0, .int 0, .ref b6, .ref b7, .ref b8, .ref b9, .ref b10, .ref b11, .ref b12, .ref b13, .ref b14, .ref b15, .ref b16, .ref b17, .int 0, .int (-1), .int (-1), .ref b21, .ref b22, .ref b23, .ref b24, .ref b25, .ref b26, .int 0, .ref b28, .ref b29, .ref b30, .ref b31, .ref b32, .ref b33, .ref b34, .ref b35, .ref b36, .int 0, .int 0, .int 0, .int 0, .int 0, .int 0, .int 0, .int 0, .int 0, .ref b46, .ref b47, .ref b48, .ref b49, .ref b50, .ref b51, .ref b52, .ref b53, .ref b54, .ref b55, .ref b56, .ref b57, .ref b58, .ref b59, .ref b60, .ref b61, .ref b62, .ref b63]))]) X hW 0 ciX11 rfl (C_X11_least l g x0 a0 a1 a2 a3 a4 a5 a6 a7 a8 a9 a10 (xs (1 : Int32).toNatClampNeg) (xs (2 : Int32).toNatClampNeg) (xs (3 : Int32).toNatClampNeg)) vL_91 [0] [1] rfl rfl rfl rfl rfl rfl hl.1 rfl (Nat.le_of_ble_eq_true rfl) ⟨Nat.le_of_ble_eq_true rfl, Nat.le_of_ble_eq_true rfl⟩ ⟨Nat.le_of_ble_eq_true rfl, Nat.le_of_ble_eq_true rfl⟩ dL_law_869 (fun r4 u9 H locs hq hW => ?_)
  obtain ⟨rfl, rfl⟩ := hq
  have hW : WD g (AL s) s _ _ [(m0, .inr (12, [.int 0, .ref b1, .int 0, .int 0, .int 0, .int 0, .ref b6, .ref b7, .ref b8, .ref b9, .ref b10, .ref b11, .ref b12, .ref b13, .ref b14, .ref b15, .ref b16, .ref b17, .int 0, .int (-1), .int (-1), .ref b21, .ref b22, .ref b23, .ref b24, .ref b25, .ref b26, .int 0, .ref b28, .ref b29, .ref b30, .ref b31, .ref b32, .ref b33, .ref b34, .ref b35, .ref b36, .int 0, .int 0, .int 0, .int 0, .int 0, .int 0, .int 0, .int 0, .int 0, .ref b46, .ref b47, .ref b48, .ref b49, .ref b50, .ref b51, .ref b52, .ref b53, .ref b54, .ref b55, .ref b56, .ref b57, .ref b58, .ref b59, .ref b60, .ref b61, .ref b62, .ref b63])), (x0, .inr (11, [.ref a0, .ref a1, .ref a2, .ref a3, .ref a4, .ref a5, .ref a6, .ref a7, .ref a8, .ref a9, .ref a10, .int 0, .int 0, .int 0]))] := hW
  refine lv_aload_n (pc := 872) hx hb dL_law_872 rfl (lv_at hl 2 rfl) ?_
  refine lv_aload_n (pc := 873) hx hb dL_law_873 rfl (lv_at hl 0 rfl) ?_
  refine lv_iload (pc := 874) hx hb dL_law_874 (lv_at hl 4 rfl) ?_
  refine lv_iconst (v := 1) (pc := 876) hx hb dL_law_876 (by decide) ?_
  refine lv_iadd (pc := 877) hx hb dL_law_877 ?_
  refine lv_topi (fun v5 ev5 => ?_)
  obtain rfl : v5 = 1 := ev5.trans (by decide +kernel)
  refine va_sld (pc := 878) hx hb hX hbl hbA hW.2.2 (vp_in_nI (n := 1) (by decide) (by decide)) dL_law_878 ?_
  refine lv_aload_n (pc := 879) hx hb dL_law_879 rfl (lv_at hl 0 rfl) ?_
  refine lv_iload (pc := 880) hx hb dL_law_880 (lv_at hl 4 rfl) ?_
  refine lv_iconst (v := 2) (pc := 882) hx hb dL_law_882 (by decide) ?_
  refine lv_iadd (pc := 883) hx hb dL_law_883 ?_
  refine lv_topi (fun v6 ev6 => ?_)
  obtain rfl : v6 = 2 := ev6.trans (by decide +kernel)
  refine va_sld (pc := 884) hx hb hX hbl hbA hW.2.2 (vp_in_nI (n := 2) (by decide) (by decide)) dL_law_884 ?_
  refine lv_aload_n (pc := 885) hx hb dL_law_885 rfl (lv_at hl 0 rfl) ?_
  refine lv_iload (pc := 886) hx hb dL_law_886 (lv_at hl 4 rfl) ?_
  refine lv_iconst (v := 3) (pc := 888) hx hb dL_law_888 (by decide) ?_
  refine lv_iadd (pc := 889) hx hb dL_law_889 ?_
  refine lv_topi (fun v7 ev7 => ?_)
  obtain rfl : v7 = 3 := ev7.trans (by decide +kernel)
  refine va_sld (pc := 890) hx hb hX hbl hbA hW.2.2 (vp_in_nI (n := 3) (by decide) (by decide)) dL_law_890 ?_
  refine c_Vi (pc := 891) (As := [.int (xs (1 : Int32).toNatClampNeg), .int (xs (2 : Int32).toNatClampNeg), .int (xs (3 : Int32).toNatClampNeg)]) (rest := [.int (-1)]) (wr := [(x0, .inr (11, [.ref a0, .ref a1, .ref a2, .ref a3, .ref a4, .ref a5, .ref a6, .ref a7, .ref a8, .ref a9, .ref a10, .int 0, .int 0, .int 0]))]) X hW 0 ciX12 rfl (C_X12_least l g m0 b1 b6 b7 b8 b9 b10 b11 b12 b13 b14 b15 b16 b17 b21 b22 b23 b24 b25 b26 b28 b29 b30 b31 b32 b33 b34 b35 b36 b46 b47 b48 b49 b50 b51 b52 b53 b54 b55 b56 b57 b58 b59 b60 b61 b62 b63 (xs (1 : Int32).toNatClampNeg) (xs (2 : Int32).toNatClampNeg) (xs (3 : Int32).toNatClampNeg)) vL_94 [0] [1] rfl rfl rfl rfl rfl rfl hl.1 rfl (Nat.le_of_ble_eq_true rfl) ⟨Nat.le_of_ble_eq_true rfl, Nat.le_of_ble_eq_true rfl⟩ ⟨Nat.le_of_ble_eq_true rfl, Nat.le_of_ble_eq_true rfl⟩ dL_law_891 (fun r8 u9 H locs hq hW => ?_)
  obtain ⟨rfl, rfl⟩ := hq
  have hW : WD g (AL s) s _ _ [(x0, .inr (11, [.ref a0, .ref a1, .ref a2, .ref a3, .ref a4, .ref a5, .ref a6, .ref a7, .ref a8, .ref a9, .ref a10, .int 0, .int 0, .int 0])), (m0, .inr (12, [.int 0, .ref b1, .int 0, .int 0, .int 0, .int 0, .ref b6, .ref b7, .ref b8, .ref b9, .ref b10, .ref b11, .ref b12, .ref b13, .ref b14, .ref b15, .ref b16, .ref b17, .int 0, .int (-1), .int (-1), .ref b21, .ref b22, .ref b23, .ref b24, .ref b25, .ref b26, .int 0, .ref b28, .ref b29, .ref b30, .ref b31, .ref b32, .ref b33, .ref b34, .ref b35, .ref b36, .int 0, .int 0, .int 0, .int 0, .int 0, .int 0, .int 0, .int 0, .int 0, .ref b46, .ref b47, .ref b48, .ref b49, .ref b50, .ref b51, .ref b52, .ref b53, .ref b54, .ref b55, .ref b56, .ref b57, .ref b58, .ref b59, .ref b60, .ref b61, .ref b62, .ref b63]))] := hW
  refine lv_icmp_eq (tgt := 1865) (pc := 894) hx hb dL_law_894 rfl (fun c9 => ?_) (fun c9 => absurd (by decide) c9)
  exact law_end X hr hX hbl ⟨Nat.le_of_ble_eq_true rfl, Nat.le_of_ble_eq_true rfl⟩ (hW.pick [] rfl rfl) (lv_sub hl [0, 4] rfl)

set_option maxHeartbeats 4000000 in
set_option maxRecDepth 100000 in
theorem law_16 {p : Program} {e : Env} {s : State} {m : MethodId} {below : List Frame} {meth : Method} {c : Code} {l : Launch} {b : Nat} {xs : Nat → Int32} {g : GG} {H : Heap} {locs : List Loc} {ls : Array Slot} {a0 a1 a10 a2 a3 a4 a5 a6 a7 a8 a9 b1 b10 b11 b12 b13 b14 b15 b16 b17 b21 b22 b23 b24 b25 b26 b28 b29 b30 b31 b32 b33 b34 b35 b36 b46 b47 b48 b49 b50 b51 b52 b53 b54 b55 b56 b57 b58 b59 b6 b60 b61 b62 b63 b7 b8 b9 m0 o0 x0 : Nat} (X : CTX p l m meth c cL_law 7 s #[Value.ref b] RL g (AL s)) (hr : meth.sig.returnType = ret) (hX : va_X b 6 xs s s.heap) (hbl : b < s.heap.size) (hW : WD g (AL s) s H locs [(x0, .inr (11, [.ref a0, .ref a1, .ref a2, .ref a3, .ref a4, .ref a5, .ref a6, .ref a7, .ref a8, .ref a9, .ref a10, .int 0, .int 0, .int 0])), (m0, .inr (12, [.int 0, .ref b1, .int 0, .int 0, .int 0, .int 0, .ref b6, .ref b7, .ref b8, .ref b9, .ref b10, .ref b11, .ref b12, .ref b13, .ref b14, .ref b15, .ref b16, .ref b17, .int 0, .int (-1), .int (-1), .ref b21, .ref b22, .ref b23, .ref b24, .ref b25, .ref b26, .int 0, .ref b28, .ref b29, .ref b30, .ref b31, .ref b32, .ref b33, .ref b34, .ref b35, .ref b36, .int 0, .int 0, .int 0, .int 0, .int 0, .int 0, .int 0, .int 0, .int 0, .ref b46, .ref b47, .ref b48, .ref b49, .ref b50, .ref b51, .ref b52, .ref b53, .ref b54, .ref b55, .ref b56, .ref b57, .ref b58, .ref b59, .ref b60, .ref b61, .ref b62, .ref b63]))]) (hl : lv_has ls 7 [(0, .ref b), (1, .ref x0), (2, .ref m0), (3, .ref o0), (4, .int 0)]) : W p l e room_1 s m #[Value.ref b] below meth c H locs 97 615458 (lw_Z below #[Value.ref b] s) (F0 m 899 ls []) := by
  have hx := X.1
  have hb := X.2.1
  have hbA : ¬ (AL s) b := Nat.not_le.mpr hbl
  refine lv_aload_n (pc := 899) hx hb dL_law_899 rfl (lv_at hl 1 rfl) ?_
  refine lv_aload_n (pc := 900) hx hb dL_law_900 rfl (lv_at hl 0 rfl) ?_
  refine lv_iload (pc := 901) hx hb dL_law_901 (lv_at hl 4 rfl) ?_
  refine lv_iconst (v := 1) (pc := 903) hx hb dL_law_903 (by decide) ?_
  refine lv_iadd (pc := 904) hx hb dL_law_904 ?_
  refine lv_topi (fun v1 ev1 => ?_)
  obtain rfl : v1 = 1 := ev1.trans (by decide +kernel)
  refine va_sld (pc := 905) hx hb hX hbl hbA hW.2.2 (vp_in_nI (n := 1) (by decide) (by decide)) dL_law_905 ?_
  refine lv_aload_n (pc := 906) hx hb dL_law_906 rfl (lv_at hl 0 rfl) ?_
  refine lv_iload (pc := 907) hx hb dL_law_907 (lv_at hl 4 rfl) ?_
  refine lv_iconst (v := 2) (pc := 909) hx hb dL_law_909 (by decide) ?_
  refine lv_iadd (pc := 910) hx hb dL_law_910 ?_
  refine lv_topi (fun v2 ev2 => ?_)
  obtain rfl : v2 = 2 := ev2.trans (by decide +kernel)
  refine va_sld (pc := 911) hx hb hX hbl hbA hW.2.2 (vp_in_nI (n := 2) (by decide) (by decide)) dL_law_911 ?_
  refine lv_aload_n (pc := 912) hx hb dL_law_912 rfl (lv_at hl 0 rfl) ?_
  refine lv_iload (pc := 913) hx hb dL_law_913 (lv_at hl 4 rfl) ?_
  refine lv_iconst (v := 3) (pc := 915) hx hb dL_law_915 (by decide) ?_
  refine lv_iadd (pc := 916) hx hb dL_law_916 ?_
  refine lv_topi (fun v3 ev3 => ?_)
  obtain rfl : v3 = 3 := ev3.trans (by decide +kernel)
  refine va_sld (pc := 917) hx hb hX hbl hbA hW.2.2 (vp_in_nI (n := 3) (by decide) (by decide)) dL_law_917 ?_
  refine lv_aload_n (pc := 918) hx hb dL_law_918 rfl (lv_at hl 0 rfl) ?_
  refine lv_iload (pc := 919) hx hb dL_law_919 (lv_at hl 4 rfl) ?_
  refine lv_iconst (v := 4) (pc := 921) hx hb dL_law_921 (by decide) ?_
  refine lv_iadd (pc := 922) hx hb dL_law_922 ?_
  refine lv_topi (fun v4 ev4 => ?_)
  obtain rfl : v4 = 4 := ev4.trans (by decide +kernel)
  refine va_sld (pc := 923) hx hb hX hbl hbA hW.2.2 (vp_in_nI (n := 4) (by decide) (by decide)) dL_law_923 ?_
  refine lv_aload_n (pc := 924) hx hb dL_law_924 rfl (lv_at hl 0 rfl) ?_
  refine lv_iload (pc := 925) hx hb dL_law_925 (lv_at hl 4 rfl) ?_
  refine lv_iconst (v := 5) (pc := 927) hx hb dL_law_927 (by decide) ?_
  refine lv_iadd (pc := 928) hx hb dL_law_928 ?_
  refine lv_topi (fun v5 ev5 => ?_)
  obtain rfl : v5 = 5 := ev5.trans (by decide +kernel)
  refine va_sld (pc := 929) hx hb hX hbl hbA hW.2.2 (vp_in_nI (n := 5) (by decide) (by decide)) dL_law_929 ?_
  refine c_Vi (pc := 930) (As := [.int (xs (1 : Int32).toNatClampNeg), .int (xs (2 : Int32).toNatClampNeg), .int (xs (3 : Int32).toNatClampNeg), .int (xs (4 : Int32).toNatClampNeg), .int (xs (5 : Int32).toNatClampNeg)]) (rest := []) (wr := [(m0, .inr (12, [.int 0, .ref b1, .int 0, .int 0, .int 0, .int 0, .ref b6, .ref b7, .ref b8, .ref b9, .ref b10, .ref b11, .ref b12, .ref b13, .ref b14, .ref b15, .ref b16, .ref b17, .int 0, .int (-1), .int (-1), .ref b21, .ref b22, .ref b23, .ref b24, .ref b25, .ref b26, .int 0, .ref b28, .ref b29, .ref b30, .ref b31, .ref b32, .ref b33, .ref b34, .ref b35, .ref b36, .int 0, .int 0, .int 0, .int 0, .int 0, .int 0, .int 0, .int 0, .int 0, .ref b46, .ref b47, .ref b48, .ref b49, .ref b50, .ref b51, .ref b52, .ref b53, .ref b54, .ref b55, .ref b56, .ref b57, .ref b58, .ref b59, .ref b60, .ref b61, .ref b62, .ref b63]))]) X hW 0 ciX11 rfl (C_X11_found l g x0 a0 a1 a2 a3 a4 a5 a6 a7 a8 a9 a10 (xs (1 : Int32).toNatClampNeg) (xs (2 : Int32).toNatClampNeg) (xs (3 : Int32).toNatClampNeg) (xs (4 : Int32).toNatClampNeg) (xs (5 : Int32).toNatClampNeg)) vL_95 [0] [1] rfl rfl rfl rfl rfl rfl hl.1 rfl (Nat.le_of_ble_eq_true rfl) ⟨Nat.le_of_ble_eq_true rfl, Nat.le_of_ble_eq_true rfl⟩ ⟨Nat.le_of_ble_eq_true rfl, Nat.le_of_ble_eq_true rfl⟩ dL_law_930 (fun r6 u9 H locs hq hW => ?_)
  obtain ⟨rfl, rfl⟩ := hq
  have hW : WD g (AL s) s _ _ [(m0, .inr (12, [.int 0, .ref b1, .int 0, .int 0, .int 0, .int 0, .ref b6, .ref b7, .ref b8, .ref b9, .ref b10, .ref b11, .ref b12, .ref b13, .ref b14, .ref b15, .ref b16, .ref b17, .int 0, .int (-1), .int (-1), .ref b21, .ref b22, .ref b23, .ref b24, .ref b25, .ref b26, .int 0, .ref b28, .ref b29, .ref b30, .ref b31, .ref b32, .ref b33, .ref b34, .ref b35, .ref b36, .int 0, .int 0, .int 0, .int 0, .int 0, .int 0, .int 0, .int 0, .int 0, .ref b46, .ref b47, .ref b48, .ref b49, .ref b50, .ref b51, .ref b52, .ref b53, .ref b54, .ref b55, .ref b56, .ref b57, .ref b58, .ref b59, .ref b60, .ref b61, .ref b62, .ref b63])), (x0, .inr (11, [.ref a0, .ref a1, .ref a2, .ref a3, .ref a4, .ref a5, .ref a6, .ref a7, .ref a8, .ref a9, .ref a10, .int 0, .int 0, .int 0]))] := hW
  refine lv_aload_n (pc := 933) hx hb dL_law_933 rfl (lv_at hl 2 rfl) ?_
  refine lv_aload_n (pc := 934) hx hb dL_law_934 rfl (lv_at hl 0 rfl) ?_
  refine lv_iload (pc := 935) hx hb dL_law_935 (lv_at hl 4 rfl) ?_
  refine lv_iconst (v := 1) (pc := 937) hx hb dL_law_937 (by decide) ?_
  refine lv_iadd (pc := 938) hx hb dL_law_938 ?_
  refine lv_topi (fun v7 ev7 => ?_)
  obtain rfl : v7 = 1 := ev7.trans (by decide +kernel)
  refine va_sld (pc := 939) hx hb hX hbl hbA hW.2.2 (vp_in_nI (n := 1) (by decide) (by decide)) dL_law_939 ?_
  refine lv_aload_n (pc := 940) hx hb dL_law_940 rfl (lv_at hl 0 rfl) ?_
  refine lv_iload (pc := 941) hx hb dL_law_941 (lv_at hl 4 rfl) ?_
  refine lv_iconst (v := 2) (pc := 943) hx hb dL_law_943 (by decide) ?_
  refine lv_iadd (pc := 944) hx hb dL_law_944 ?_
  refine lv_topi (fun v8 ev8 => ?_)
  obtain rfl : v8 = 2 := ev8.trans (by decide +kernel)
  refine va_sld (pc := 945) hx hb hX hbl hbA hW.2.2 (vp_in_nI (n := 2) (by decide) (by decide)) dL_law_945 ?_
  refine lv_aload_n (pc := 946) hx hb dL_law_946 rfl (lv_at hl 0 rfl) ?_
  refine lv_iload (pc := 947) hx hb dL_law_947 (lv_at hl 4 rfl) ?_
  refine lv_iconst (v := 3) (pc := 949) hx hb dL_law_949 (by decide) ?_
  refine lv_iadd (pc := 950) hx hb dL_law_950 ?_
  refine lv_topi (fun v9 ev9 => ?_)
  obtain rfl : v9 = 3 := ev9.trans (by decide +kernel)
  refine va_sld (pc := 951) hx hb hX hbl hbA hW.2.2 (vp_in_nI (n := 3) (by decide) (by decide)) dL_law_951 ?_
  refine lv_aload_n (pc := 952) hx hb dL_law_952 rfl (lv_at hl 0 rfl) ?_
  refine lv_iload (pc := 953) hx hb dL_law_953 (lv_at hl 4 rfl) ?_
  refine lv_iconst (v := 4) (pc := 955) hx hb dL_law_955 (by decide) ?_
  refine lv_iadd (pc := 956) hx hb dL_law_956 ?_
  refine lv_topi (fun v10 ev10 => ?_)
  obtain rfl : v10 = 4 := ev10.trans (by decide +kernel)
  refine va_sld (pc := 957) hx hb hX hbl hbA hW.2.2 (vp_in_nI (n := 4) (by decide) (by decide)) dL_law_957 ?_
  refine lv_aload_n (pc := 958) hx hb dL_law_958 rfl (lv_at hl 0 rfl) ?_
  refine lv_iload (pc := 959) hx hb dL_law_959 (lv_at hl 4 rfl) ?_
  refine lv_iconst (v := 5) (pc := 961) hx hb dL_law_961 (by decide) ?_
  refine lv_iadd (pc := 962) hx hb dL_law_962 ?_
  refine lv_topi (fun v11 ev11 => ?_)
  obtain rfl : v11 = 5 := ev11.trans (by decide +kernel)
  refine va_sld (pc := 963) hx hb hX hbl hbA hW.2.2 (vp_in_nI (n := 5) (by decide) (by decide)) dL_law_963 ?_
  refine c_Vi (pc := 964) (As := [.int (xs (1 : Int32).toNatClampNeg), .int (xs (2 : Int32).toNatClampNeg), .int (xs (3 : Int32).toNatClampNeg), .int (xs (4 : Int32).toNatClampNeg), .int (xs (5 : Int32).toNatClampNeg)]) (rest := [.int (-1)]) (wr := [(x0, .inr (11, [.ref a0, .ref a1, .ref a2, .ref a3, .ref a4, .ref a5, .ref a6, .ref a7, .ref a8, .ref a9, .ref a10, .int 0, .int 0, .int 0]))]) X hW 0 ciX12 rfl (C_X12_found l g m0 b1 b6 b7 b8 b9 b10 b11 b12 b13 b14 b15 b16 b17 b21 b22 b23 b24 b25 b26 b28 b29 b30 b31 b32 b33 b34 b35 b36 b46 b47 b48 b49 b50 b51 b52 b53 b54 b55 b56 b57 b58 b59 b60 b61 b62 b63 (xs (1 : Int32).toNatClampNeg) (xs (2 : Int32).toNatClampNeg) (xs (3 : Int32).toNatClampNeg) (xs (4 : Int32).toNatClampNeg) (xs (5 : Int32).toNatClampNeg)) vL_98 [0] [1] rfl rfl rfl rfl rfl rfl hl.1 rfl (Nat.le_of_ble_eq_true rfl) ⟨Nat.le_of_ble_eq_true rfl, Nat.le_of_ble_eq_true rfl⟩ ⟨Nat.le_of_ble_eq_true rfl, Nat.le_of_ble_eq_true rfl⟩ dL_law_964 (fun r12 u9 H locs hq hW => ?_)
  obtain ⟨rfl, rfl⟩ := hq
  have hW : WD g (AL s) s _ _ [(x0, .inr (11, [.ref a0, .ref a1, .ref a2, .ref a3, .ref a4, .ref a5, .ref a6, .ref a7, .ref a8, .ref a9, .ref a10, .int 0, .int 0, .int 0])), (m0, .inr (12, [.int 0, .ref b1, .int 0, .int 0, .int 0, .int 0, .ref b6, .ref b7, .ref b8, .ref b9, .ref b10, .ref b11, .ref b12, .ref b13, .ref b14, .ref b15, .ref b16, .ref b17, .int 0, .int (-1), .int (-1), .ref b21, .ref b22, .ref b23, .ref b24, .ref b25, .ref b26, .int 0, .ref b28, .ref b29, .ref b30, .ref b31, .ref b32, .ref b33, .ref b34, .ref b35, .ref b36, .int 0, .int 0, .int 0, .int 0, .int 0, .int 0, .int 0, .int 0, .int 0, .ref b46, .ref b47, .ref b48, .ref b49, .ref b50, .ref b51, .ref b52, .ref b53, .ref b54, .ref b55, .ref b56, .ref b57, .ref b58, .ref b59, .ref b60, .ref b61, .ref b62, .ref b63]))] := hW
  refine lv_icmp_eq (tgt := 1865) (pc := 967) hx hb dL_law_967 rfl (fun c13 => ?_) (fun c13 => absurd (by decide) c13)
  exact law_end X hr hX hbl ⟨Nat.le_of_ble_eq_true rfl, Nat.le_of_ble_eq_true rfl⟩ (hW.pick [] rfl rfl) (lv_sub hl [0, 4] rfl)

set_option maxHeartbeats 4000000 in
set_option maxRecDepth 100000 in
theorem law_17 {p : Program} {e : Env} {s : State} {m : MethodId} {below : List Frame} {meth : Method} {c : Code} {l : Launch} {b : Nat} {xs : Nat → Int32} {g : GG} {H : Heap} {locs : List Loc} {ls : Array Slot} {a0 a1 a10 a2 a3 a4 a5 a6 a7 a8 a9 b1 b10 b11 b12 b13 b14 b15 b16 b17 b21 b22 b23 b24 b25 b26 b28 b29 b30 b31 b32 b33 b34 b35 b36 b46 b47 b48 b49 b50 b51 b52 b53 b54 b55 b56 b57 b58 b59 b6 b60 b61 b62 b63 b7 b8 b9 m0 o0 x0 : Nat} (X : CTX p l m meth c cL_law 7 s #[Value.ref b] RL g (AL s)) (hr : meth.sig.returnType = ret) (hX : va_X b 6 xs s s.heap) (hbl : b < s.heap.size) (hW : WD g (AL s) s H locs [(x0, .inr (11, [.ref a0, .ref a1, .ref a2, .ref a3, .ref a4, .ref a5, .ref a6, .ref a7, .ref a8, .ref a9, .ref a10, .int 0, .int 0, .int 0])), (m0, .inr (12, [.int 0, .ref b1, .int 0, .int 0, .int 0, .int 0, .ref b6, .ref b7, .ref b8, .ref b9, .ref b10, .ref b11, .ref b12, .ref b13, .ref b14, .ref b15, .ref b16, .ref b17, .int 0, .int (-1), .int (-1), .ref b21, .ref b22, .ref b23, .ref b24, .ref b25, .ref b26, .int 0, .ref b28, .ref b29, .ref b30, .ref b31, .ref b32, .ref b33, .ref b34, .ref b35, .ref b36, .int 0, .int 0, .int 0, .int 0, .int 0, .int 0, .int 0, .int 0, .int 0, .ref b46, .ref b47, .ref b48, .ref b49, .ref b50, .ref b51, .ref b52, .ref b53, .ref b54, .ref b55, .ref b56, .ref b57, .ref b58, .ref b59, .ref b60, .ref b61, .ref b62, .ref b63]))]) (hl : lv_has ls 7 [(0, .ref b), (1, .ref x0), (2, .ref m0), (3, .ref o0), (4, .int 0)]) : W p l e room_1 s m #[Value.ref b] below meth c H locs 97 615458 (lw_Z below #[Value.ref b] s) (F0 m 972 ls []) := by
  have hx := X.1
  have hb := X.2.1
  have hbA : ¬ (AL s) b := Nat.not_le.mpr hbl
  refine lv_aload_n (pc := 972) hx hb dL_law_972 rfl (lv_at hl 1 rfl) ?_
  refine lv_aload_n (pc := 973) hx hb dL_law_973 rfl (lv_at hl 0 rfl) ?_
  refine lv_iload (pc := 974) hx hb dL_law_974 (lv_at hl 4 rfl) ?_
  refine lv_iconst (v := 1) (pc := 976) hx hb dL_law_976 (by decide) ?_
  refine lv_iadd (pc := 977) hx hb dL_law_977 ?_
  refine lv_topi (fun v1 ev1 => ?_)
  obtain rfl : v1 = 1 := ev1.trans (by decide +kernel)
  refine va_sld (pc := 978) hx hb hX hbl hbA hW.2.2 (vp_in_nI (n := 1) (by decide) (by decide)) dL_law_978 ?_
  refine lv_aload_n (pc := 979) hx hb dL_law_979 rfl (lv_at hl 0 rfl) ?_
  refine lv_iload (pc := 980) hx hb dL_law_980 (lv_at hl 4 rfl) ?_
  refine lv_iconst (v := 2) (pc := 982) hx hb dL_law_982 (by decide) ?_
  refine lv_iadd (pc := 983) hx hb dL_law_983 ?_
  refine lv_topi (fun v2 ev2 => ?_)
  obtain rfl : v2 = 2 := ev2.trans (by decide +kernel)
  refine va_sld (pc := 984) hx hb hX hbl hbA hW.2.2 (vp_in_nI (n := 2) (by decide) (by decide)) dL_law_984 ?_
  refine lv_aload_n (pc := 985) hx hb dL_law_985 rfl (lv_at hl 0 rfl) ?_
  refine lv_iload (pc := 986) hx hb dL_law_986 (lv_at hl 4 rfl) ?_
  refine lv_iconst (v := 3) (pc := 988) hx hb dL_law_988 (by decide) ?_
  refine lv_iadd (pc := 989) hx hb dL_law_989 ?_
  refine lv_topi (fun v3 ev3 => ?_)
  obtain rfl : v3 = 3 := ev3.trans (by decide +kernel)
  refine va_sld (pc := 990) hx hb hX hbl hbA hW.2.2 (vp_in_nI (n := 3) (by decide) (by decide)) dL_law_990 ?_
  refine lv_aload_n (pc := 991) hx hb dL_law_991 rfl (lv_at hl 0 rfl) ?_
  refine lv_iload (pc := 992) hx hb dL_law_992 (lv_at hl 4 rfl) ?_
  refine lv_iconst (v := 4) (pc := 994) hx hb dL_law_994 (by decide) ?_
  refine lv_iadd (pc := 995) hx hb dL_law_995 ?_
  refine lv_topi (fun v4 ev4 => ?_)
  obtain rfl : v4 = 4 := ev4.trans (by decide +kernel)
  refine va_sld (pc := 996) hx hb hX hbl hbA hW.2.2 (vp_in_nI (n := 4) (by decide) (by decide)) dL_law_996 ?_
  refine c_Vi (pc := 997) (As := [.int (xs (1 : Int32).toNatClampNeg), .int (xs (2 : Int32).toNatClampNeg), .int (xs (3 : Int32).toNatClampNeg), .int (xs (4 : Int32).toNatClampNeg)]) (rest := []) (wr := [(m0, .inr (12, [.int 0, .ref b1, .int 0, .int 0, .int 0, .int 0, .ref b6, .ref b7, .ref b8, .ref b9, .ref b10, .ref b11, .ref b12, .ref b13, .ref b14, .ref b15, .ref b16, .ref b17, .int 0, .int (-1), .int (-1), .ref b21, .ref b22, .ref b23, .ref b24, .ref b25, .ref b26, .int 0, .ref b28, .ref b29, .ref b30, .ref b31, .ref b32, .ref b33, .ref b34, .ref b35, .ref b36, .int 0, .int 0, .int 0, .int 0, .int 0, .int 0, .int 0, .int 0, .int 0, .ref b46, .ref b47, .ref b48, .ref b49, .ref b50, .ref b51, .ref b52, .ref b53, .ref b54, .ref b55, .ref b56, .ref b57, .ref b58, .ref b59, .ref b60, .ref b61, .ref b62, .ref b63]))]) X hW 0 ciX11 rfl (C_X11_reach l g x0 a0 a1 a2 a3 a4 a5 a6 a7 a8 a9 a10 (xs (1 : Int32).toNatClampNeg) (xs (2 : Int32).toNatClampNeg) (xs (3 : Int32).toNatClampNeg) (xs (4 : Int32).toNatClampNeg)) vL_99 [0] [1] rfl rfl rfl rfl rfl rfl hl.1 rfl (Nat.le_of_ble_eq_true rfl) ⟨Nat.le_of_ble_eq_true rfl, Nat.le_of_ble_eq_true rfl⟩ ⟨Nat.le_of_ble_eq_true rfl, Nat.le_of_ble_eq_true rfl⟩ dL_law_997 (fun r5 u9 H locs hq hW => ?_)
  obtain ⟨rfl, rfl⟩ := hq
  have hW : WD g (AL s) s _ _ [(m0, .inr (12, [.int 0, .ref b1, .int 0, .int 0, .int 0, .int 0, .ref b6, .ref b7, .ref b8, .ref b9, .ref b10, .ref b11, .ref b12, .ref b13, .ref b14, .ref b15, .ref b16, .ref b17, .int 0, .int (-1), .int (-1), .ref b21, .ref b22, .ref b23, .ref b24, .ref b25, .ref b26, .int 0, .ref b28, .ref b29, .ref b30, .ref b31, .ref b32, .ref b33, .ref b34, .ref b35, .ref b36, .int 0, .int 0, .int 0, .int 0, .int 0, .int 0, .int 0, .int 0, .int 0, .ref b46, .ref b47, .ref b48, .ref b49, .ref b50, .ref b51, .ref b52, .ref b53, .ref b54, .ref b55, .ref b56, .ref b57, .ref b58, .ref b59, .ref b60, .ref b61, .ref b62, .ref b63])), (x0, .inr (11, [.ref a0, .ref a1, .ref a2, .ref a3, .ref a4, .ref a5, .ref a6, .ref a7, .ref a8, .ref a9, .ref a10, .int 0, .int 0, .int 0]))] := hW
  refine lv_aload_n (pc := 1000) hx hb dL_law_1000 rfl (lv_at hl 2 rfl) ?_
  refine lv_aload_n (pc := 1001) hx hb dL_law_1001 rfl (lv_at hl 0 rfl) ?_
  refine lv_iload (pc := 1002) hx hb dL_law_1002 (lv_at hl 4 rfl) ?_
  refine lv_iconst (v := 1) (pc := 1004) hx hb dL_law_1004 (by decide) ?_
  refine lv_iadd (pc := 1005) hx hb dL_law_1005 ?_
  refine lv_topi (fun v6 ev6 => ?_)
  obtain rfl : v6 = 1 := ev6.trans (by decide +kernel)
  refine va_sld (pc := 1006) hx hb hX hbl hbA hW.2.2 (vp_in_nI (n := 1) (by decide) (by decide)) dL_law_1006 ?_
  refine lv_aload_n (pc := 1007) hx hb dL_law_1007 rfl (lv_at hl 0 rfl) ?_
  refine lv_iload (pc := 1008) hx hb dL_law_1008 (lv_at hl 4 rfl) ?_
  refine lv_iconst (v := 2) (pc := 1010) hx hb dL_law_1010 (by decide) ?_
  refine lv_iadd (pc := 1011) hx hb dL_law_1011 ?_
  refine lv_topi (fun v7 ev7 => ?_)
  obtain rfl : v7 = 2 := ev7.trans (by decide +kernel)
  refine va_sld (pc := 1012) hx hb hX hbl hbA hW.2.2 (vp_in_nI (n := 2) (by decide) (by decide)) dL_law_1012 ?_
  refine lv_aload_n (pc := 1013) hx hb dL_law_1013 rfl (lv_at hl 0 rfl) ?_
  refine lv_iload (pc := 1014) hx hb dL_law_1014 (lv_at hl 4 rfl) ?_
  refine lv_iconst (v := 3) (pc := 1016) hx hb dL_law_1016 (by decide) ?_
  refine lv_iadd (pc := 1017) hx hb dL_law_1017 ?_
  refine lv_topi (fun v8 ev8 => ?_)
  obtain rfl : v8 = 3 := ev8.trans (by decide +kernel)
  refine va_sld (pc := 1018) hx hb hX hbl hbA hW.2.2 (vp_in_nI (n := 3) (by decide) (by decide)) dL_law_1018 ?_
  refine lv_aload_n (pc := 1019) hx hb dL_law_1019 rfl (lv_at hl 0 rfl) ?_
  refine lv_iload (pc := 1020) hx hb dL_law_1020 (lv_at hl 4 rfl) ?_
  refine lv_iconst (v := 4) (pc := 1022) hx hb dL_law_1022 (by decide) ?_
  refine lv_iadd (pc := 1023) hx hb dL_law_1023 ?_
  refine lv_topi (fun v9 ev9 => ?_)
  obtain rfl : v9 = 4 := ev9.trans (by decide +kernel)
  refine va_sld (pc := 1024) hx hb hX hbl hbA hW.2.2 (vp_in_nI (n := 4) (by decide) (by decide)) dL_law_1024 ?_
  refine c_Vi (pc := 1025) (As := [.int (xs (1 : Int32).toNatClampNeg), .int (xs (2 : Int32).toNatClampNeg), .int (xs (3 : Int32).toNatClampNeg), .int (xs (4 : Int32).toNatClampNeg)]) (rest := [.int (-1)]) (wr := [(x0, .inr (11, [.ref a0, .ref a1, .ref a2, .ref a3, .ref a4, .ref a5, .ref a6, .ref a7, .ref a8, .ref a9, .ref a10, .int 0, .int 0, .int 0]))]) X hW 0 ciX12 rfl (C_X12_reach l g m0 b1 b6 b7 b8 b9 b10 b11 b12 b13 b14 b15 b16 b17 b21 b22 b23 b24 b25 b26 b28 b29 b30 b31 b32 b33 b34 b35 b36 b46 b47 b48 b49 b50 b51 b52 b53 b54 b55 b56 b57 b58 b59 b60 b61 b62 b63 (xs (1 : Int32).toNatClampNeg) (xs (2 : Int32).toNatClampNeg) (xs (3 : Int32).toNatClampNeg) (xs (4 : Int32).toNatClampNeg)) vL_102 [0] [1] rfl rfl rfl rfl rfl rfl hl.1 rfl (Nat.le_of_ble_eq_true rfl) ⟨Nat.le_of_ble_eq_true rfl, Nat.le_of_ble_eq_true rfl⟩ ⟨Nat.le_of_ble_eq_true rfl, Nat.le_of_ble_eq_true rfl⟩ dL_law_1025 (fun r10 u9 H locs hq hW => ?_)
  obtain ⟨rfl, rfl⟩ := hq
  have hW : WD g (AL s) s _ _ [(x0, .inr (11, [.ref a0, .ref a1, .ref a2, .ref a3, .ref a4, .ref a5, .ref a6, .ref a7, .ref a8, .ref a9, .ref a10, .int 0, .int 0, .int 0])), (m0, .inr (12, [.int 0, .ref b1, .int 0, .int 0, .int 0, .int 0, .ref b6, .ref b7, .ref b8, .ref b9, .ref b10, .ref b11, .ref b12, .ref b13, .ref b14, .ref b15, .ref b16, .ref b17, .int 0, .int (-1), .int (-1), .ref b21, .ref b22, .ref b23, .ref b24, .ref b25, .ref b26, .int 0, .ref b28, .ref b29, .ref b30, .ref b31, .ref b32, .ref b33, .ref b34, .ref b35, .ref b36, .int 0, .int 0, .int 0, .int 0, .int 0, .int 0, .int 0, .int 0, .int 0, .ref b46, .ref b47, .ref b48, .ref b49, .ref b50, .ref b51, .ref b52, .ref b53, .ref b54, .ref b55, .ref b56, .ref b57, .ref b58, .ref b59, .ref b60, .ref b61, .ref b62, .ref b63]))] := hW
  refine lv_icmp_eq (tgt := 1865) (pc := 1028) hx hb dL_law_1028 rfl (fun c11 => ?_) (fun c11 => absurd (by decide) c11)
  exact law_end X hr hX hbl ⟨Nat.le_of_ble_eq_true rfl, Nat.le_of_ble_eq_true rfl⟩ (hW.pick [] rfl rfl) (lv_sub hl [0, 4] rfl)

set_option maxHeartbeats 4000000 in
set_option maxRecDepth 100000 in
theorem law_18 {p : Program} {e : Env} {s : State} {m : MethodId} {below : List Frame} {meth : Method} {c : Code} {l : Launch} {b : Nat} {xs : Nat → Int32} {g : GG} {H : Heap} {locs : List Loc} {ls : Array Slot} {a0 a1 a10 a2 a3 a4 a5 a6 a7 a8 a9 b1 b10 b11 b12 b13 b14 b15 b16 b17 b21 b22 b23 b24 b25 b26 b28 b29 b30 b31 b32 b33 b34 b35 b36 b46 b47 b48 b49 b50 b51 b52 b53 b54 b55 b56 b57 b58 b59 b6 b60 b61 b62 b63 b7 b8 b9 m0 o0 x0 : Nat} (X : CTX p l m meth c cL_law 7 s #[Value.ref b] RL g (AL s)) (hr : meth.sig.returnType = ret) (hX : va_X b 6 xs s s.heap) (hbl : b < s.heap.size) (hW : WD g (AL s) s H locs [(x0, .inr (11, [.ref a0, .ref a1, .ref a2, .ref a3, .ref a4, .ref a5, .ref a6, .ref a7, .ref a8, .ref a9, .ref a10, .int 0, .int 0, .int 0])), (m0, .inr (12, [.int 0, .ref b1, .int 0, .int 0, .int 0, .int 0, .ref b6, .ref b7, .ref b8, .ref b9, .ref b10, .ref b11, .ref b12, .ref b13, .ref b14, .ref b15, .ref b16, .ref b17, .int 0, .int (-1), .int (-1), .ref b21, .ref b22, .ref b23, .ref b24, .ref b25, .ref b26, .int 0, .ref b28, .ref b29, .ref b30, .ref b31, .ref b32, .ref b33, .ref b34, .ref b35, .ref b36, .int 0, .int 0, .int 0, .int 0, .int 0, .int 0, .int 0, .int 0, .int 0, .ref b46, .ref b47, .ref b48, .ref b49, .ref b50, .ref b51, .ref b52, .ref b53, .ref b54, .ref b55, .ref b56, .ref b57, .ref b58, .ref b59, .ref b60, .ref b61, .ref b62, .ref b63]))]) (hl : lv_has ls 7 [(0, .ref b), (1, .ref x0), (2, .ref m0), (3, .ref o0), (4, .int 0)]) : W p l e room_1 s m #[Value.ref b] below meth c H locs 97 615458 (lw_Z below #[Value.ref b] s) (F0 m 1033 ls []) := by
  have hx := X.1
  have hb := X.2.1
  have hbA : ¬ (AL s) b := Nat.not_le.mpr hbl
  refine lv_aload_n (pc := 1033) hx hb dL_law_1033 rfl (lv_at hl 1 rfl) ?_
  refine lv_aload_n (pc := 1034) hx hb dL_law_1034 rfl (lv_at hl 0 rfl) ?_
  refine lv_iload (pc := 1035) hx hb dL_law_1035 (lv_at hl 4 rfl) ?_
  refine lv_iconst (v := 1) (pc := 1037) hx hb dL_law_1037 (by decide) ?_
  refine lv_iadd (pc := 1038) hx hb dL_law_1038 ?_
  refine lv_topi (fun v1 ev1 => ?_)
  obtain rfl : v1 = 1 := ev1.trans (by decide +kernel)
  refine va_sld (pc := 1039) hx hb hX hbl hbA hW.2.2 (vp_in_nI (n := 1) (by decide) (by decide)) dL_law_1039 ?_
  refine lv_aload_n (pc := 1040) hx hb dL_law_1040 rfl (lv_at hl 0 rfl) ?_
  refine lv_iload (pc := 1041) hx hb dL_law_1041 (lv_at hl 4 rfl) ?_
  refine lv_iconst (v := 2) (pc := 1043) hx hb dL_law_1043 (by decide) ?_
  refine lv_iadd (pc := 1044) hx hb dL_law_1044 ?_
  refine lv_topi (fun v2 ev2 => ?_)
  obtain rfl : v2 = 2 := ev2.trans (by decide +kernel)
  refine va_sld (pc := 1045) hx hb hX hbl hbA hW.2.2 (vp_in_nI (n := 2) (by decide) (by decide)) dL_law_1045 ?_
  refine lv_aload_n (pc := 1046) hx hb dL_law_1046 rfl (lv_at hl 0 rfl) ?_
  refine lv_iload (pc := 1047) hx hb dL_law_1047 (lv_at hl 4 rfl) ?_
  refine lv_iconst (v := 3) (pc := 1049) hx hb dL_law_1049 (by decide) ?_
  refine lv_iadd (pc := 1050) hx hb dL_law_1050 ?_
  refine lv_topi (fun v3 ev3 => ?_)
  obtain rfl : v3 = 3 := ev3.trans (by decide +kernel)
  refine va_sld (pc := 1051) hx hb hX hbl hbA hW.2.2 (vp_in_nI (n := 3) (by decide) (by decide)) dL_law_1051 ?_
  refine c_Vi (pc := 1052) (As := [.int (xs (1 : Int32).toNatClampNeg), .int (xs (2 : Int32).toNatClampNeg), .int (xs (3 : Int32).toNatClampNeg)]) (rest := []) (wr := [(m0, .inr (12, [.int 0, .ref b1, .int 0, .int 0, .int 0, .int 0, .ref b6, .ref b7, .ref b8, .ref b9, .ref b10, .ref b11, .ref b12, .ref b13, .ref b14, .ref b15, .ref b16, .ref b17, .int 0, .int (-1), .int (-1), .ref b21, .ref b22, .ref b23, .ref b24, .ref b25, .ref b26, .int 0, .ref b28, .ref b29, .ref b30, .ref b31, .ref b32, .ref b33, .ref b34, .ref b35, .ref b36, .int 0, .int 0, .int 0, .int 0, .int 0, .int 0, .int 0, .int 0, .int 0, .ref b46, .ref b47, .ref b48, .ref b49, .ref b50, .ref b51, .ref b52, .ref b53, .ref b54, .ref b55, .ref b56, .ref b57, .ref b58, .ref b59, .ref b60, .ref b61, .ref b62, .ref b63]))]) X hW 0 ciX11 rfl (C_X11_from l g x0 a0 a1 a2 a3 a4 a5 a6 a7 a8 a9 a10 (xs (1 : Int32).toNatClampNeg) (xs (2 : Int32).toNatClampNeg) (xs (3 : Int32).toNatClampNeg)) vL_103 [0] [1] rfl rfl rfl rfl rfl rfl hl.1 rfl (Nat.le_of_ble_eq_true rfl) ⟨Nat.le_of_ble_eq_true rfl, Nat.le_of_ble_eq_true rfl⟩ ⟨Nat.le_of_ble_eq_true rfl, Nat.le_of_ble_eq_true rfl⟩ dL_law_1052 (fun r4 u9 H locs hq hW => ?_)
  obtain ⟨rfl, rfl⟩ := hq
  have hW : WD g (AL s) s _ _ [(m0, .inr (12, [.int 0, .ref b1, .int 0, .int 0, .int 0, .int 0, .ref b6, .ref b7, .ref b8, .ref b9, .ref b10, .ref b11, .ref b12, .ref b13, .ref b14, .ref b15, .ref b16, .ref b17, .int 0, .int (-1), .int (-1), .ref b21, .ref b22, .ref b23, .ref b24, .ref b25, .ref b26, .int 0, .ref b28, .ref b29, .ref b30, .ref b31, .ref b32, .ref b33, .ref b34, .ref b35, .ref b36, .int 0, .int 0, .int 0, .int 0, .int 0, .int 0, .int 0, .int 0, .int 0, .ref b46, .ref b47, .ref b48, .ref b49, .ref b50, .ref b51, .ref b52, .ref b53, .ref b54, .ref b55, .ref b56, .ref b57, .ref b58, .ref b59, .ref b60, .ref b61, .ref b62, .ref b63])), (x0, .inr (11, [.ref a0, .ref a1, .ref a2, .ref a3, .ref a4, .ref a5, .ref a6, .ref a7, .ref a8, .ref a9, .ref a10, .int 0, .int 0, .int 0]))] := hW
  refine lv_aload_n (pc := 1055) hx hb dL_law_1055 rfl (lv_at hl 2 rfl) ?_
  refine lv_aload_n (pc := 1056) hx hb dL_law_1056 rfl (lv_at hl 0 rfl) ?_
  refine lv_iload (pc := 1057) hx hb dL_law_1057 (lv_at hl 4 rfl) ?_
  refine lv_iconst (v := 1) (pc := 1059) hx hb dL_law_1059 (by decide) ?_
  refine lv_iadd (pc := 1060) hx hb dL_law_1060 ?_
  refine lv_topi (fun v5 ev5 => ?_)
  obtain rfl : v5 = 1 := ev5.trans (by decide +kernel)
  refine va_sld (pc := 1061) hx hb hX hbl hbA hW.2.2 (vp_in_nI (n := 1) (by decide) (by decide)) dL_law_1061 ?_
  refine lv_aload_n (pc := 1062) hx hb dL_law_1062 rfl (lv_at hl 0 rfl) ?_
  refine lv_iload (pc := 1063) hx hb dL_law_1063 (lv_at hl 4 rfl) ?_
  refine lv_iconst (v := 2) (pc := 1065) hx hb dL_law_1065 (by decide) ?_
  refine lv_iadd (pc := 1066) hx hb dL_law_1066 ?_
  refine lv_topi (fun v6 ev6 => ?_)
  obtain rfl : v6 = 2 := ev6.trans (by decide +kernel)
  refine va_sld (pc := 1067) hx hb hX hbl hbA hW.2.2 (vp_in_nI (n := 2) (by decide) (by decide)) dL_law_1067 ?_
  refine lv_aload_n (pc := 1068) hx hb dL_law_1068 rfl (lv_at hl 0 rfl) ?_
  refine lv_iload (pc := 1069) hx hb dL_law_1069 (lv_at hl 4 rfl) ?_
  refine lv_iconst (v := 3) (pc := 1071) hx hb dL_law_1071 (by decide) ?_
  refine lv_iadd (pc := 1072) hx hb dL_law_1072 ?_
  refine lv_topi (fun v7 ev7 => ?_)
  obtain rfl : v7 = 3 := ev7.trans (by decide +kernel)
  refine va_sld (pc := 1073) hx hb hX hbl hbA hW.2.2 (vp_in_nI (n := 3) (by decide) (by decide)) dL_law_1073 ?_
  refine c_Vi (pc := 1074) (As := [.int (xs (1 : Int32).toNatClampNeg), .int (xs (2 : Int32).toNatClampNeg), .int (xs (3 : Int32).toNatClampNeg)]) (rest := [.int (-1)]) (wr := [(x0, .inr (11, [.ref a0, .ref a1, .ref a2, .ref a3, .ref a4, .ref a5, .ref a6, .ref a7, .ref a8, .ref a9, .ref a10, .int 0, .int 0, .int 0]))]) X hW 0 ciX12 rfl (C_X12_from l g m0 b1 b6 b7 b8 b9 b10 b11 b12 b13 b14 b15 b16 b17 b21 b22 b23 b24 b25 b26 b28 b29 b30 b31 b32 b33 b34 b35 b36 b46 b47 b48 b49 b50 b51 b52 b53 b54 b55 b56 b57 b58 b59 b60 b61 b62 b63 (xs (1 : Int32).toNatClampNeg) (xs (2 : Int32).toNatClampNeg) (xs (3 : Int32).toNatClampNeg)) vL_106 [0] [1] rfl rfl rfl rfl rfl rfl hl.1 rfl (Nat.le_of_ble_eq_true rfl) ⟨Nat.le_of_ble_eq_true rfl, Nat.le_of_ble_eq_true rfl⟩ ⟨Nat.le_of_ble_eq_true rfl, Nat.le_of_ble_eq_true rfl⟩ dL_law_1074 (fun r8 u9 H locs hq hW => ?_)
  obtain ⟨rfl, rfl⟩ := hq
  have hW : WD g (AL s) s _ _ [(x0, .inr (11, [.ref a0, .ref a1, .ref a2, .ref a3, .ref a4, .ref a5, .ref a6, .ref a7, .ref a8, .ref a9, .ref a10, .int 0, .int 0, .int 0])), (m0, .inr (12, [.int 0, .ref b1, .int 0, .int 0, .int 0, .int 0, .ref b6, .ref b7, .ref b8, .ref b9, .ref b10, .ref b11, .ref b12, .ref b13, .ref b14, .ref b15, .ref b16, .ref b17, .int 0, .int (-1), .int (-1), .ref b21, .ref b22, .ref b23, .ref b24, .ref b25, .ref b26, .int 0, .ref b28, .ref b29, .ref b30, .ref b31, .ref b32, .ref b33, .ref b34, .ref b35, .ref b36, .int 0, .int 0, .int 0, .int 0, .int 0, .int 0, .int 0, .int 0, .int 0, .ref b46, .ref b47, .ref b48, .ref b49, .ref b50, .ref b51, .ref b52, .ref b53, .ref b54, .ref b55, .ref b56, .ref b57, .ref b58, .ref b59, .ref b60, .ref b61, .ref b62, .ref b63]))] := hW
  refine lv_icmp_eq (tgt := 1865) (pc := 1077) hx hb dL_law_1077 rfl (fun c9 => ?_) (fun c9 => absurd (by decide) c9)
  exact law_end X hr hX hbl ⟨Nat.le_of_ble_eq_true rfl, Nat.le_of_ble_eq_true rfl⟩ (hW.pick [] rfl rfl) (lv_sub hl [0, 4] rfl)

set_option maxHeartbeats 4000000 in
set_option maxRecDepth 100000 in
theorem law_19 {p : Program} {e : Env} {s : State} {m : MethodId} {below : List Frame} {meth : Method} {c : Code} {l : Launch} {b : Nat} {xs : Nat → Int32} {g : GG} {H : Heap} {locs : List Loc} {ls : Array Slot} {a0 a1 a10 a2 a3 a4 a5 a6 a7 a8 a9 b1 b10 b11 b12 b13 b14 b15 b16 b17 b21 b22 b23 b24 b25 b26 b28 b29 b30 b31 b32 b33 b34 b35 b36 b46 b47 b48 b49 b50 b51 b52 b53 b54 b55 b56 b57 b58 b59 b6 b60 b61 b62 b63 b7 b8 b9 m0 o0 x0 : Nat} (X : CTX p l m meth c cL_law 7 s #[Value.ref b] RL g (AL s)) (hr : meth.sig.returnType = ret) (hX : va_X b 6 xs s s.heap) (hbl : b < s.heap.size) (hW : WD g (AL s) s H locs [(x0, .inr (11, [.ref a0, .ref a1, .ref a2, .ref a3, .ref a4, .ref a5, .ref a6, .ref a7, .ref a8, .ref a9, .ref a10, .int 0, .int 0, .int 0])), (m0, .inr (12, [.int 0, .ref b1, .int 0, .int 0, .int 0, .int 0, .ref b6, .ref b7, .ref b8, .ref b9, .ref b10, .ref b11, .ref b12, .ref b13, .ref b14, .ref b15, .ref b16, .ref b17, .int 0, .int (-1), .int (-1), .ref b21, .ref b22, .ref b23, .ref b24, .ref b25, .ref b26, .int 0, .ref b28, .ref b29, .ref b30, .ref b31, .ref b32, .ref b33, .ref b34, .ref b35, .ref b36, .int 0, .int 0, .int 0, .int 0, .int 0, .int 0, .int 0, .int 0, .int 0, .ref b46, .ref b47, .ref b48, .ref b49, .ref b50, .ref b51, .ref b52, .ref b53, .ref b54, .ref b55, .ref b56, .ref b57, .ref b58, .ref b59, .ref b60, .ref b61, .ref b62, .ref b63]))]) (hl : lv_has ls 7 [(0, .ref b), (1, .ref x0), (2, .ref m0), (3, .ref o0), (4, .int 0)]) : W p l e room_1 s m #[Value.ref b] below meth c H locs 97 615458 (lw_Z below #[Value.ref b] s) (F0 m 1082 ls []) := by
  have hx := X.1
  have hb := X.2.1
  have hbA : ¬ (AL s) b := Nat.not_le.mpr hbl
  refine lv_aload_n (pc := 1082) hx hb dL_law_1082 rfl (lv_at hl 1 rfl) ?_
  refine lv_aload_n (pc := 1083) hx hb dL_law_1083 rfl (lv_at hl 0 rfl) ?_
  refine lv_iload (pc := 1084) hx hb dL_law_1084 (lv_at hl 4 rfl) ?_
  refine lv_iconst (v := 1) (pc := 1086) hx hb dL_law_1086 (by decide) ?_
  refine lv_iadd (pc := 1087) hx hb dL_law_1087 ?_
  refine lv_topi (fun v1 ev1 => ?_)
  obtain rfl : v1 = 1 := ev1.trans (by decide +kernel)
  refine va_sld (pc := 1088) hx hb hX hbl hbA hW.2.2 (vp_in_nI (n := 1) (by decide) (by decide)) dL_law_1088 ?_
  refine lv_aload_n (pc := 1089) hx hb dL_law_1089 rfl (lv_at hl 0 rfl) ?_
  refine lv_iload (pc := 1090) hx hb dL_law_1090 (lv_at hl 4 rfl) ?_
  refine lv_iconst (v := 2) (pc := 1092) hx hb dL_law_1092 (by decide) ?_
  refine lv_iadd (pc := 1093) hx hb dL_law_1093 ?_
  refine lv_topi (fun v2 ev2 => ?_)
  obtain rfl : v2 = 2 := ev2.trans (by decide +kernel)
  refine va_sld (pc := 1094) hx hb hX hbl hbA hW.2.2 (vp_in_nI (n := 2) (by decide) (by decide)) dL_law_1094 ?_
  refine lv_aload_n (pc := 1095) hx hb dL_law_1095 rfl (lv_at hl 0 rfl) ?_
  refine lv_iload (pc := 1096) hx hb dL_law_1096 (lv_at hl 4 rfl) ?_
  refine lv_iconst (v := 3) (pc := 1098) hx hb dL_law_1098 (by decide) ?_
  refine lv_iadd (pc := 1099) hx hb dL_law_1099 ?_
  refine lv_topi (fun v3 ev3 => ?_)
  obtain rfl : v3 = 3 := ev3.trans (by decide +kernel)
  refine va_sld (pc := 1100) hx hb hX hbl hbA hW.2.2 (vp_in_nI (n := 3) (by decide) (by decide)) dL_law_1100 ?_
  refine c_Vi (pc := 1101) (As := [.int (xs (1 : Int32).toNatClampNeg), .int (xs (2 : Int32).toNatClampNeg), .int (xs (3 : Int32).toNatClampNeg)]) (rest := []) (wr := [(m0, .inr (12, [.int 0, .ref b1, .int 0, .int 0, .int 0, .int 0, .ref b6, .ref b7, .ref b8, .ref b9, .ref b10, .ref b11, .ref b12, .ref b13, .ref b14, .ref b15, .ref b16, .ref b17, .int 0, .int (-1), .int (-1), .ref b21, .ref b22, .ref b23, .ref b24, .ref b25, .ref b26, .int 0, .ref b28, .ref b29, .ref b30, .ref b31, .ref b32, .ref b33, .ref b34, .ref b35, .ref b36, .int 0, .int 0, .int 0, .int 0, .int 0, .int 0, .int 0, .int 0, .int 0, .ref b46, .ref b47, .ref b48, .ref b49, .ref b50, .ref b51, .ref b52, .ref b53, .ref b54, .ref b55, .ref b56, .ref b57, .ref b58, .ref b59, .ref b60, .ref b61, .ref b62, .ref b63]))]) X hW 0 ciX11 rfl (C_X11_added l g x0 a0 a1 a2 a3 a4 a5 a6 a7 a8 a9 a10 (xs (1 : Int32).toNatClampNeg) (xs (2 : Int32).toNatClampNeg) (xs (3 : Int32).toNatClampNeg)) vL_107 [0] [1] rfl rfl rfl rfl rfl rfl hl.1 rfl (Nat.le_of_ble_eq_true rfl) ⟨Nat.le_of_ble_eq_true rfl, Nat.le_of_ble_eq_true rfl⟩ ⟨Nat.le_of_ble_eq_true rfl, Nat.le_of_ble_eq_true rfl⟩ dL_law_1101 (fun r4 u9 H locs hq hW => ?_)
  obtain ⟨rfl, rfl⟩ := hq
  have hW : WD g (AL s) s _ _ [(m0, .inr (12, [.int 0, .ref b1, .int 0, .int 0, .int 0, .int 0, .ref b6, .ref b7, .ref b8, .ref b9, .ref b10, .ref b11, .ref b12, .ref b13, .ref b14, .ref b15, .ref b16, .ref b17, .int 0, .int (-1), .int (-1), .ref b21, .ref b22, .ref b23, .ref b24, .ref b25, .ref b26, .int 0, .ref b28, .ref b29, .ref b30, .ref b31, .ref b32, .ref b33, .ref b34, .ref b35, .ref b36, .int 0, .int 0, .int 0, .int 0, .int 0, .int 0, .int 0, .int 0, .int 0, .ref b46, .ref b47, .ref b48, .ref b49, .ref b50, .ref b51, .ref b52, .ref b53, .ref b54, .ref b55, .ref b56, .ref b57, .ref b58, .ref b59, .ref b60, .ref b61, .ref b62, .ref b63])), (x0, .inr (11, [.ref a0, .ref a1, .ref a2, .ref a3, .ref a4, .ref a5, .ref a6, .ref a7, .ref a8, .ref a9, .ref a10, .int 0, .int 0, .int 0]))] := hW
  refine lv_aload_n (pc := 1104) hx hb dL_law_1104 rfl (lv_at hl 2 rfl) ?_
  refine lv_aload_n (pc := 1105) hx hb dL_law_1105 rfl (lv_at hl 0 rfl) ?_
  refine lv_iload (pc := 1106) hx hb dL_law_1106 (lv_at hl 4 rfl) ?_
  refine lv_iconst (v := 1) (pc := 1108) hx hb dL_law_1108 (by decide) ?_
  refine lv_iadd (pc := 1109) hx hb dL_law_1109 ?_
  refine lv_topi (fun v5 ev5 => ?_)
  obtain rfl : v5 = 1 := ev5.trans (by decide +kernel)
  refine va_sld (pc := 1110) hx hb hX hbl hbA hW.2.2 (vp_in_nI (n := 1) (by decide) (by decide)) dL_law_1110 ?_
  refine lv_aload_n (pc := 1111) hx hb dL_law_1111 rfl (lv_at hl 0 rfl) ?_
  refine lv_iload (pc := 1112) hx hb dL_law_1112 (lv_at hl 4 rfl) ?_
  refine lv_iconst (v := 2) (pc := 1114) hx hb dL_law_1114 (by decide) ?_
  refine lv_iadd (pc := 1115) hx hb dL_law_1115 ?_
  refine lv_topi (fun v6 ev6 => ?_)
  obtain rfl : v6 = 2 := ev6.trans (by decide +kernel)
  refine va_sld (pc := 1116) hx hb hX hbl hbA hW.2.2 (vp_in_nI (n := 2) (by decide) (by decide)) dL_law_1116 ?_
  refine lv_aload_n (pc := 1117) hx hb dL_law_1117 rfl (lv_at hl 0 rfl) ?_
  refine lv_iload (pc := 1118) hx hb dL_law_1118 (lv_at hl 4 rfl) ?_
  refine lv_iconst (v := 3) (pc := 1120) hx hb dL_law_1120 (by decide) ?_
  refine lv_iadd (pc := 1121) hx hb dL_law_1121 ?_
  refine lv_topi (fun v7 ev7 => ?_)
  obtain rfl : v7 = 3 := ev7.trans (by decide +kernel)
  refine va_sld (pc := 1122) hx hb hX hbl hbA hW.2.2 (vp_in_nI (n := 3) (by decide) (by decide)) dL_law_1122 ?_
  refine c_Vi (pc := 1123) (As := [.int (xs (1 : Int32).toNatClampNeg), .int (xs (2 : Int32).toNatClampNeg), .int (xs (3 : Int32).toNatClampNeg)]) (rest := [.int (-1)]) (wr := [(x0, .inr (11, [.ref a0, .ref a1, .ref a2, .ref a3, .ref a4, .ref a5, .ref a6, .ref a7, .ref a8, .ref a9, .ref a10, .int 0, .int 0, .int 0]))]) X hW 0 ciX12 rfl (C_X12_added l g m0 b1 b6 b7 b8 b9 b10 b11 b12 b13 b14 b15 b16 b17 b21 b22 b23 b24 b25 b26 b28 b29 b30 b31 b32 b33 b34 b35 b36 b46 b47 b48 b49 b50 b51 b52 b53 b54 b55 b56 b57 b58 b59 b60 b61 b62 b63 (xs (1 : Int32).toNatClampNeg) (xs (2 : Int32).toNatClampNeg) (xs (3 : Int32).toNatClampNeg)) vL_110 [0] [1] rfl rfl rfl rfl rfl rfl hl.1 rfl (Nat.le_of_ble_eq_true rfl) ⟨Nat.le_of_ble_eq_true rfl, Nat.le_of_ble_eq_true rfl⟩ ⟨Nat.le_of_ble_eq_true rfl, Nat.le_of_ble_eq_true rfl⟩ dL_law_1123 (fun r8 u9 H locs hq hW => ?_)
  obtain ⟨rfl, rfl⟩ := hq
  have hW : WD g (AL s) s _ _ [(x0, .inr (11, [.ref a0, .ref a1, .ref a2, .ref a3, .ref a4, .ref a5, .ref a6, .ref a7, .ref a8, .ref a9, .ref a10, .int 0, .int 0, .int 0])), (m0, .inr (12, [.int 0, .ref b1, .int 0, .int 0, .int 0, .int 0, .ref b6, .ref b7, .ref b8, .ref b9, .ref b10, .ref b11, .ref b12, .ref b13, .ref b14, .ref b15, .ref b16, .ref b17, .int 0, .int (-1), .int (-1), .ref b21, .ref b22, .ref b23, .ref b24, .ref b25, .ref b26, .int 0, .ref b28, .ref b29, .ref b30, .ref b31, .ref b32, .ref b33, .ref b34, .ref b35, .ref b36, .int 0, .int 0, .int 0, .int 0, .int 0, .int 0, .int 0, .int 0, .int 0, .ref b46, .ref b47, .ref b48, .ref b49, .ref b50, .ref b51, .ref b52, .ref b53, .ref b54, .ref b55, .ref b56, .ref b57, .ref b58, .ref b59, .ref b60, .ref b61, .ref b62, .ref b63]))] := hW
  refine lv_icmp_eq (tgt := 1865) (pc := 1126) hx hb dL_law_1126 rfl (fun c9 => ?_) (fun c9 => absurd (by decide) c9)
  exact law_end X hr hX hbl ⟨Nat.le_of_ble_eq_true rfl, Nat.le_of_ble_eq_true rfl⟩ (hW.pick [] rfl rfl) (lv_sub hl [0, 4] rfl)

set_option maxHeartbeats 4000000 in
set_option maxRecDepth 100000 in
theorem law_20 {p : Program} {e : Env} {s : State} {m : MethodId} {below : List Frame} {meth : Method} {c : Code} {l : Launch} {b : Nat} {xs : Nat → Int32} {g : GG} {H : Heap} {locs : List Loc} {ls : Array Slot} {a0 a1 a10 a2 a3 a4 a5 a6 a7 a8 a9 b1 b10 b11 b12 b13 b14 b15 b16 b17 b21 b22 b23 b24 b25 b26 b28 b29 b30 b31 b32 b33 b34 b35 b36 b46 b47 b48 b49 b50 b51 b52 b53 b54 b55 b56 b57 b58 b59 b6 b60 b61 b62 b63 b7 b8 b9 m0 o0 x0 : Nat} (X : CTX p l m meth c cL_law 7 s #[Value.ref b] RL g (AL s)) (hr : meth.sig.returnType = ret) (hX : va_X b 6 xs s s.heap) (hbl : b < s.heap.size) (hW : WD g (AL s) s H locs [(x0, .inr (11, [.ref a0, .ref a1, .ref a2, .ref a3, .ref a4, .ref a5, .ref a6, .ref a7, .ref a8, .ref a9, .ref a10, .int 0, .int 0, .int 0])), (m0, .inr (12, [.int 0, .ref b1, .int 0, .int 0, .int 0, .int 0, .ref b6, .ref b7, .ref b8, .ref b9, .ref b10, .ref b11, .ref b12, .ref b13, .ref b14, .ref b15, .ref b16, .ref b17, .int 0, .int (-1), .int (-1), .ref b21, .ref b22, .ref b23, .ref b24, .ref b25, .ref b26, .int 0, .ref b28, .ref b29, .ref b30, .ref b31, .ref b32, .ref b33, .ref b34, .ref b35, .ref b36, .int 0, .int 0, .int 0, .int 0, .int 0, .int 0, .int 0, .int 0, .int 0, .ref b46, .ref b47, .ref b48, .ref b49, .ref b50, .ref b51, .ref b52, .ref b53, .ref b54, .ref b55, .ref b56, .ref b57, .ref b58, .ref b59, .ref b60, .ref b61, .ref b62, .ref b63]))]) (hl : lv_has ls 7 [(0, .ref b), (1, .ref x0), (2, .ref m0), (3, .ref o0), (4, .int 0)]) : W p l e room_1 s m #[Value.ref b] below meth c H locs 97 615458 (lw_Z below #[Value.ref b] s) (F0 m 1131 ls []) := by
  have hx := X.1
  have hb := X.2.1
  have hbA : ¬ (AL s) b := Nat.not_le.mpr hbl
  refine lv_aload_n (pc := 1131) hx hb dL_law_1131 rfl (lv_at hl 1 rfl) ?_
  refine lv_aload_n (pc := 1132) hx hb dL_law_1132 rfl (lv_at hl 0 rfl) ?_
  refine lv_iload (pc := 1133) hx hb dL_law_1133 (lv_at hl 4 rfl) ?_
  refine lv_iconst (v := 1) (pc := 1135) hx hb dL_law_1135 (by decide) ?_
  refine lv_iadd (pc := 1136) hx hb dL_law_1136 ?_
  refine lv_topi (fun v1 ev1 => ?_)
  obtain rfl : v1 = 1 := ev1.trans (by decide +kernel)
  refine va_sld (pc := 1137) hx hb hX hbl hbA hW.2.2 (vp_in_nI (n := 1) (by decide) (by decide)) dL_law_1137 ?_
  refine lv_aload_n (pc := 1138) hx hb dL_law_1138 rfl (lv_at hl 0 rfl) ?_
  refine lv_iload (pc := 1139) hx hb dL_law_1139 (lv_at hl 4 rfl) ?_
  refine lv_iconst (v := 2) (pc := 1141) hx hb dL_law_1141 (by decide) ?_
  refine lv_iadd (pc := 1142) hx hb dL_law_1142 ?_
  refine lv_topi (fun v2 ev2 => ?_)
  obtain rfl : v2 = 2 := ev2.trans (by decide +kernel)
  refine va_sld (pc := 1143) hx hb hX hbl hbA hW.2.2 (vp_in_nI (n := 2) (by decide) (by decide)) dL_law_1143 ?_
  refine lv_aload_n (pc := 1144) hx hb dL_law_1144 rfl (lv_at hl 0 rfl) ?_
  refine lv_iload (pc := 1145) hx hb dL_law_1145 (lv_at hl 4 rfl) ?_
  refine lv_iconst (v := 3) (pc := 1147) hx hb dL_law_1147 (by decide) ?_
  refine lv_iadd (pc := 1148) hx hb dL_law_1148 ?_
  refine lv_topi (fun v3 ev3 => ?_)
  obtain rfl : v3 = 3 := ev3.trans (by decide +kernel)
  refine va_sld (pc := 1149) hx hb hX hbl hbA hW.2.2 (vp_in_nI (n := 3) (by decide) (by decide)) dL_law_1149 ?_
  refine lv_aload_n (pc := 1150) hx hb dL_law_1150 rfl (lv_at hl 0 rfl) ?_
  refine lv_iload (pc := 1151) hx hb dL_law_1151 (lv_at hl 4 rfl) ?_
  refine lv_iconst (v := 4) (pc := 1153) hx hb dL_law_1153 (by decide) ?_
  refine lv_iadd (pc := 1154) hx hb dL_law_1154 ?_
  refine lv_topi (fun v4 ev4 => ?_)
  obtain rfl : v4 = 4 := ev4.trans (by decide +kernel)
  refine va_sld (pc := 1155) hx hb hX hbl hbA hW.2.2 (vp_in_nI (n := 4) (by decide) (by decide)) dL_law_1155 ?_
  refine c_Vi (pc := 1156) (As := [.int (xs (1 : Int32).toNatClampNeg), .int (xs (2 : Int32).toNatClampNeg), .int (xs (3 : Int32).toNatClampNeg), .int (xs (4 : Int32).toNatClampNeg)]) (rest := []) (wr := [(m0, .inr (12, [.int 0, .ref b1, .int 0, .int 0, .int 0, .int 0, .ref b6, .ref b7, .ref b8, .ref b9, .ref b10, .ref b11, .ref b12, .ref b13, .ref b14, .ref b15, .ref b16, .ref b17, .int 0, .int (-1), .int (-1), .ref b21, .ref b22, .ref b23, .ref b24, .ref b25, .ref b26, .int 0, .ref b28, .ref b29, .ref b30, .ref b31, .ref b32, .ref b33, .ref b34, .ref b35, .ref b36, .int 0, .int 0, .int 0, .int 0, .int 0, .int 0, .int 0, .int 0, .int 0, .ref b46, .ref b47, .ref b48, .ref b49, .ref b50, .ref b51, .ref b52, .ref b53, .ref b54, .ref b55, .ref b56, .ref b57, .ref b58, .ref b59, .ref b60, .ref b61, .ref b62, .ref b63]))]) X hW 0 ciX11 rfl (C_X11_shut l g x0 a0 a1 a2 a3 a4 a5 a6 a7 a8 a9 a10 (xs (1 : Int32).toNatClampNeg) (xs (2 : Int32).toNatClampNeg) (xs (3 : Int32).toNatClampNeg) (xs (4 : Int32).toNatClampNeg)) vL_111 [0] [1] rfl rfl rfl rfl rfl rfl hl.1 rfl (Nat.le_of_ble_eq_true rfl) ⟨Nat.le_of_ble_eq_true rfl, Nat.le_of_ble_eq_true rfl⟩ ⟨Nat.le_of_ble_eq_true rfl, Nat.le_of_ble_eq_true rfl⟩ dL_law_1156 (fun r5 u9 H locs hq hW => ?_)
  obtain ⟨rfl, rfl⟩ := hq
  have hW : WD g (AL s) s _ _ [(m0, .inr (12, [.int 0, .ref b1, .int 0, .int 0, .int 0, .int 0, .ref b6, .ref b7, .ref b8, .ref b9, .ref b10, .ref b11, .ref b12, .ref b13, .ref b14, .ref b15, .ref b16, .ref b17, .int 0, .int (-1), .int (-1), .ref b21, .ref b22, .ref b23, .ref b24, .ref b25, .ref b26, .int 0, .ref b28, .ref b29, .ref b30, .ref b31, .ref b32, .ref b33, .ref b34, .ref b35, .ref b36, .int 0, .int 0, .int 0, .int 0, .int 0, .int 0, .int 0, .int 0, .int 0, .ref b46, .ref b47, .ref b48, .ref b49, .ref b50, .ref b51, .ref b52, .ref b53, .ref b54, .ref b55, .ref b56, .ref b57, .ref b58, .ref b59, .ref b60, .ref b61, .ref b62, .ref b63])), (x0, .inr (11, [.ref a0, .ref a1, .ref a2, .ref a3, .ref a4, .ref a5, .ref a6, .ref a7, .ref a8, .ref a9, .ref a10, .int 0, .int 0, .int 0]))] := hW
  refine lv_aload_n (pc := 1159) hx hb dL_law_1159 rfl (lv_at hl 2 rfl) ?_
  refine lv_aload_n (pc := 1160) hx hb dL_law_1160 rfl (lv_at hl 0 rfl) ?_
  refine lv_iload (pc := 1161) hx hb dL_law_1161 (lv_at hl 4 rfl) ?_
  refine lv_iconst (v := 1) (pc := 1163) hx hb dL_law_1163 (by decide) ?_
  refine lv_iadd (pc := 1164) hx hb dL_law_1164 ?_
  refine lv_topi (fun v6 ev6 => ?_)
  obtain rfl : v6 = 1 := ev6.trans (by decide +kernel)
  refine va_sld (pc := 1165) hx hb hX hbl hbA hW.2.2 (vp_in_nI (n := 1) (by decide) (by decide)) dL_law_1165 ?_
  refine lv_aload_n (pc := 1166) hx hb dL_law_1166 rfl (lv_at hl 0 rfl) ?_
  refine lv_iload (pc := 1167) hx hb dL_law_1167 (lv_at hl 4 rfl) ?_
  refine lv_iconst (v := 2) (pc := 1169) hx hb dL_law_1169 (by decide) ?_
  refine lv_iadd (pc := 1170) hx hb dL_law_1170 ?_
  refine lv_topi (fun v7 ev7 => ?_)
  obtain rfl : v7 = 2 := ev7.trans (by decide +kernel)
  refine va_sld (pc := 1171) hx hb hX hbl hbA hW.2.2 (vp_in_nI (n := 2) (by decide) (by decide)) dL_law_1171 ?_
  refine lv_aload_n (pc := 1172) hx hb dL_law_1172 rfl (lv_at hl 0 rfl) ?_
  refine lv_iload (pc := 1173) hx hb dL_law_1173 (lv_at hl 4 rfl) ?_
  refine lv_iconst (v := 3) (pc := 1175) hx hb dL_law_1175 (by decide) ?_
  refine lv_iadd (pc := 1176) hx hb dL_law_1176 ?_
  refine lv_topi (fun v8 ev8 => ?_)
  obtain rfl : v8 = 3 := ev8.trans (by decide +kernel)
  refine va_sld (pc := 1177) hx hb hX hbl hbA hW.2.2 (vp_in_nI (n := 3) (by decide) (by decide)) dL_law_1177 ?_
  refine lv_aload_n (pc := 1178) hx hb dL_law_1178 rfl (lv_at hl 0 rfl) ?_
  refine lv_iload (pc := 1179) hx hb dL_law_1179 (lv_at hl 4 rfl) ?_
  refine lv_iconst (v := 4) (pc := 1181) hx hb dL_law_1181 (by decide) ?_
  refine lv_iadd (pc := 1182) hx hb dL_law_1182 ?_
  refine lv_topi (fun v9 ev9 => ?_)
  obtain rfl : v9 = 4 := ev9.trans (by decide +kernel)
  refine va_sld (pc := 1183) hx hb hX hbl hbA hW.2.2 (vp_in_nI (n := 4) (by decide) (by decide)) dL_law_1183 ?_
  refine c_Vi (pc := 1184) (As := [.int (xs (1 : Int32).toNatClampNeg), .int (xs (2 : Int32).toNatClampNeg), .int (xs (3 : Int32).toNatClampNeg), .int (xs (4 : Int32).toNatClampNeg)]) (rest := [.int (-1)]) (wr := [(x0, .inr (11, [.ref a0, .ref a1, .ref a2, .ref a3, .ref a4, .ref a5, .ref a6, .ref a7, .ref a8, .ref a9, .ref a10, .int 0, .int 0, .int 0]))]) X hW 0 ciX12 rfl (C_X12_shut l g m0 b1 b6 b7 b8 b9 b10 b11 b12 b13 b14 b15 b16 b17 b21 b22 b23 b24 b25 b26 b28 b29 b30 b31 b32 b33 b34 b35 b36 b46 b47 b48 b49 b50 b51 b52 b53 b54 b55 b56 b57 b58 b59 b60 b61 b62 b63 (xs (1 : Int32).toNatClampNeg) (xs (2 : Int32).toNatClampNeg) (xs (3 : Int32).toNatClampNeg) (xs (4 : Int32).toNatClampNeg)) vL_114 [0] [1] rfl rfl rfl rfl rfl rfl hl.1 rfl (Nat.le_of_ble_eq_true rfl) ⟨Nat.le_of_ble_eq_true rfl, Nat.le_of_ble_eq_true rfl⟩ ⟨Nat.le_of_ble_eq_true rfl, Nat.le_of_ble_eq_true rfl⟩ dL_law_1184 (fun r10 u9 H locs hq hW => ?_)
  obtain ⟨rfl, rfl⟩ := hq
  have hW : WD g (AL s) s _ _ [(x0, .inr (11, [.ref a0, .ref a1, .ref a2, .ref a3, .ref a4, .ref a5, .ref a6, .ref a7, .ref a8, .ref a9, .ref a10, .int 0, .int 0, .int 0])), (m0, .inr (12, [.int 0, .ref b1, .int 0, .int 0, .int 0, .int 0, .ref b6, .ref b7, .ref b8, .ref b9, .ref b10, .ref b11, .ref b12, .ref b13, .ref b14, .ref b15, .ref b16, .ref b17, .int 0, .int (-1), .int (-1), .ref b21, .ref b22, .ref b23, .ref b24, .ref b25, .ref b26, .int 0, .ref b28, .ref b29, .ref b30, .ref b31, .ref b32, .ref b33, .ref b34, .ref b35, .ref b36, .int 0, .int 0, .int 0, .int 0, .int 0, .int 0, .int 0, .int 0, .int 0, .ref b46, .ref b47, .ref b48, .ref b49, .ref b50, .ref b51, .ref b52, .ref b53, .ref b54, .ref b55, .ref b56, .ref b57, .ref b58, .ref b59, .ref b60, .ref b61, .ref b62, .ref b63]))] := hW
  refine lv_icmp_eq (tgt := 1865) (pc := 1187) hx hb dL_law_1187 rfl (fun c11 => ?_) (fun c11 => absurd (by decide) c11)
  exact law_end X hr hX hbl ⟨Nat.le_of_ble_eq_true rfl, Nat.le_of_ble_eq_true rfl⟩ (hW.pick [] rfl rfl) (lv_sub hl [0, 4] rfl)

set_option maxHeartbeats 4000000 in
set_option maxRecDepth 100000 in
theorem law_21 {p : Program} {e : Env} {s : State} {m : MethodId} {below : List Frame} {meth : Method} {c : Code} {l : Launch} {b : Nat} {xs : Nat → Int32} {g : GG} {H : Heap} {locs : List Loc} {ls : Array Slot} {a0 a1 a10 a2 a3 a4 a5 a6 a7 a8 a9 b1 b10 b11 b12 b13 b14 b15 b16 b17 b21 b22 b23 b24 b25 b26 b28 b29 b30 b31 b32 b33 b34 b35 b36 b46 b47 b48 b49 b50 b51 b52 b53 b54 b55 b56 b57 b58 b59 b6 b60 b61 b62 b63 b7 b8 b9 m0 o0 x0 : Nat} (X : CTX p l m meth c cL_law 7 s #[Value.ref b] RL g (AL s)) (hr : meth.sig.returnType = ret) (hX : va_X b 6 xs s s.heap) (hbl : b < s.heap.size) (hW : WD g (AL s) s H locs [(x0, .inr (11, [.ref a0, .ref a1, .ref a2, .ref a3, .ref a4, .ref a5, .ref a6, .ref a7, .ref a8, .ref a9, .ref a10, .int 0, .int 0, .int 0])), (m0, .inr (12, [.int 0, .ref b1, .int 0, .int 0, .int 0, .int 0, .ref b6, .ref b7, .ref b8, .ref b9, .ref b10, .ref b11, .ref b12, .ref b13, .ref b14, .ref b15, .ref b16, .ref b17, .int 0, .int (-1), .int (-1), .ref b21, .ref b22, .ref b23, .ref b24, .ref b25, .ref b26, .int 0, .ref b28, .ref b29, .ref b30, .ref b31, .ref b32, .ref b33, .ref b34, .ref b35, .ref b36, .int 0, .int 0, .int 0, .int 0, .int 0, .int 0, .int 0, .int 0, .int 0, .ref b46, .ref b47, .ref b48, .ref b49, .ref b50, .ref b51, .ref b52, .ref b53, .ref b54, .ref b55, .ref b56, .ref b57, .ref b58, .ref b59, .ref b60, .ref b61, .ref b62, .ref b63]))]) (hl : lv_has ls 7 [(0, .ref b), (1, .ref x0), (2, .ref m0), (3, .ref o0), (4, .int 0)]) : W p l e room_1 s m #[Value.ref b] below meth c H locs 97 615458 (lw_Z below #[Value.ref b] s) (F0 m 1192 ls []) := by
  have hx := X.1
  have hb := X.2.1
  have hbA : ¬ (AL s) b := Nat.not_le.mpr hbl
  refine lv_aload_n (pc := 1192) hx hb dL_law_1192 rfl (lv_at hl 1 rfl) ?_
  refine lv_aload_n (pc := 1193) hx hb dL_law_1193 rfl (lv_at hl 0 rfl) ?_
  refine lv_iload (pc := 1194) hx hb dL_law_1194 (lv_at hl 4 rfl) ?_
  refine lv_iconst (v := 1) (pc := 1196) hx hb dL_law_1196 (by decide) ?_
  refine lv_iadd (pc := 1197) hx hb dL_law_1197 ?_
  refine lv_topi (fun v1 ev1 => ?_)
  obtain rfl : v1 = 1 := ev1.trans (by decide +kernel)
  refine va_sld (pc := 1198) hx hb hX hbl hbA hW.2.2 (vp_in_nI (n := 1) (by decide) (by decide)) dL_law_1198 ?_
  refine c_Vi (pc := 1199) (As := [.int (xs (1 : Int32).toNatClampNeg)]) (rest := []) (wr := [(m0, .inr (12, [.int 0, .ref b1, .int 0, .int 0, .int 0, .int 0, .ref b6, .ref b7, .ref b8, .ref b9, .ref b10, .ref b11, .ref b12, .ref b13, .ref b14, .ref b15, .ref b16, .ref b17, .int 0, .int (-1), .int (-1), .ref b21, .ref b22, .ref b23, .ref b24, .ref b25, .ref b26, .int 0, .ref b28, .ref b29, .ref b30, .ref b31, .ref b32, .ref b33, .ref b34, .ref b35, .ref b36, .int 0, .int 0, .int 0, .int 0, .int 0, .int 0, .int 0, .int 0, .int 0, .ref b46, .ref b47, .ref b48, .ref b49, .ref b50, .ref b51, .ref b52, .ref b53, .ref b54, .ref b55, .ref b56, .ref b57, .ref b58, .ref b59, .ref b60, .ref b61, .ref b62, .ref b63]))]) X hW 0 ciX11 rfl (C_X11_fewest l g x0 a0 a1 a2 a3 a4 a5 a6 a7 a8 a9 a10 (xs (1 : Int32).toNatClampNeg)) vL_115 [0] [1] rfl rfl rfl rfl rfl rfl hl.1 rfl (Nat.le_of_ble_eq_true rfl) ⟨Nat.le_of_ble_eq_true rfl, Nat.le_of_ble_eq_true rfl⟩ ⟨Nat.le_of_ble_eq_true rfl, Nat.le_of_ble_eq_true rfl⟩ dL_law_1199 (fun r2 u9 H locs hq hW => ?_)
  obtain ⟨rfl, rfl⟩ := hq
  have hW : WD g (AL s) s _ _ [(m0, .inr (12, [.int 0, .ref b1, .int 0, .int 0, .int 0, .int 0, .ref b6, .ref b7, .ref b8, .ref b9, .ref b10, .ref b11, .ref b12, .ref b13, .ref b14, .ref b15, .ref b16, .ref b17, .int 0, .int (-1), .int (-1), .ref b21, .ref b22, .ref b23, .ref b24, .ref b25, .ref b26, .int 0, .ref b28, .ref b29, .ref b30, .ref b31, .ref b32, .ref b33, .ref b34, .ref b35, .ref b36, .int 0, .int 0, .int 0, .int 0, .int 0, .int 0, .int 0, .int 0, .int 0, .ref b46, .ref b47, .ref b48, .ref b49, .ref b50, .ref b51, .ref b52, .ref b53, .ref b54, .ref b55, .ref b56, .ref b57, .ref b58, .ref b59, .ref b60, .ref b61, .ref b62, .ref b63])), (x0, .inr (11, [.ref a0, .ref a1, .ref a2, .ref a3, .ref a4, .ref a5, .ref a6, .ref a7, .ref a8, .ref a9, .ref a10, .int 0, .int 0, .int 0]))] := hW
  refine lv_aload_n (pc := 1202) hx hb dL_law_1202 rfl (lv_at hl 2 rfl) ?_
  refine lv_aload_n (pc := 1203) hx hb dL_law_1203 rfl (lv_at hl 0 rfl) ?_
  refine lv_iload (pc := 1204) hx hb dL_law_1204 (lv_at hl 4 rfl) ?_
  refine lv_iconst (v := 1) (pc := 1206) hx hb dL_law_1206 (by decide) ?_
  refine lv_iadd (pc := 1207) hx hb dL_law_1207 ?_
  refine lv_topi (fun v3 ev3 => ?_)
  obtain rfl : v3 = 1 := ev3.trans (by decide +kernel)
  refine va_sld (pc := 1208) hx hb hX hbl hbA hW.2.2 (vp_in_nI (n := 1) (by decide) (by decide)) dL_law_1208 ?_
  refine c_Vi (pc := 1209) (As := [.int (xs (1 : Int32).toNatClampNeg)]) (rest := [.int (-1)]) (wr := [(x0, .inr (11, [.ref a0, .ref a1, .ref a2, .ref a3, .ref a4, .ref a5, .ref a6, .ref a7, .ref a8, .ref a9, .ref a10, .int 0, .int 0, .int 0]))]) X hW 0 ciX12 rfl (C_X12_fewest l g m0 b1 b6 b7 b8 b9 b10 b11 b12 b13 b14 b15 b16 b17 b21 b22 b23 b24 b25 b26 b28 b29 b30 b31 b32 b33 b34 b35 b36 b46 b47 b48 b49 b50 b51 b52 b53 b54 b55 b56 b57 b58 b59 b60 b61 b62 b63 (xs (1 : Int32).toNatClampNeg)) vL_118 [0] [1] rfl rfl rfl rfl rfl rfl hl.1 rfl (Nat.le_of_ble_eq_true rfl) ⟨Nat.le_of_ble_eq_true rfl, Nat.le_of_ble_eq_true rfl⟩ ⟨Nat.le_of_ble_eq_true rfl, Nat.le_of_ble_eq_true rfl⟩ dL_law_1209 (fun r4 u9 H locs hq hW => ?_)
  obtain ⟨rfl, rfl⟩ := hq
  have hW : WD g (AL s) s _ _ [(x0, .inr (11, [.ref a0, .ref a1, .ref a2, .ref a3, .ref a4, .ref a5, .ref a6, .ref a7, .ref a8, .ref a9, .ref a10, .int 0, .int 0, .int 0])), (m0, .inr (12, [.int 0, .ref b1, .int 0, .int 0, .int 0, .int 0, .ref b6, .ref b7, .ref b8, .ref b9, .ref b10, .ref b11, .ref b12, .ref b13, .ref b14, .ref b15, .ref b16, .ref b17, .int 0, .int (-1), .int (-1), .ref b21, .ref b22, .ref b23, .ref b24, .ref b25, .ref b26, .int 0, .ref b28, .ref b29, .ref b30, .ref b31, .ref b32, .ref b33, .ref b34, .ref b35, .ref b36, .int 0, .int 0, .int 0, .int 0, .int 0, .int 0, .int 0, .int 0, .int 0, .ref b46, .ref b47, .ref b48, .ref b49, .ref b50, .ref b51, .ref b52, .ref b53, .ref b54, .ref b55, .ref b56, .ref b57, .ref b58, .ref b59, .ref b60, .ref b61, .ref b62, .ref b63]))] := hW
  refine lv_icmp_eq (tgt := 1865) (pc := 1212) hx hb dL_law_1212 rfl (fun c5 => ?_) (fun c5 => absurd (by decide) c5)
  exact law_end X hr hX hbl ⟨Nat.le_of_ble_eq_true rfl, Nat.le_of_ble_eq_true rfl⟩ (hW.pick [] rfl rfl) (lv_sub hl [0, 4] rfl)

set_option maxHeartbeats 4000000 in
set_option maxRecDepth 100000 in
theorem law_22 {p : Program} {e : Env} {s : State} {m : MethodId} {below : List Frame} {meth : Method} {c : Code} {l : Launch} {b : Nat} {xs : Nat → Int32} {g : GG} {H : Heap} {locs : List Loc} {ls : Array Slot} {a0 a1 a10 a2 a3 a4 a5 a6 a7 a8 a9 b1 b10 b11 b12 b13 b14 b15 b16 b17 b21 b22 b23 b24 b25 b26 b28 b29 b30 b31 b32 b33 b34 b35 b36 b46 b47 b48 b49 b50 b51 b52 b53 b54 b55 b56 b57 b58 b59 b6 b60 b61 b62 b63 b7 b8 b9 m0 o0 x0 : Nat} (X : CTX p l m meth c cL_law 7 s #[Value.ref b] RL g (AL s)) (hr : meth.sig.returnType = ret) (hX : va_X b 6 xs s s.heap) (hbl : b < s.heap.size) (hW : WD g (AL s) s H locs [(x0, .inr (11, [.ref a0, .ref a1, .ref a2, .ref a3, .ref a4, .ref a5, .ref a6, .ref a7, .ref a8, .ref a9, .ref a10, .int 0, .int 0, .int 0])), (m0, .inr (12, [.int 0, .ref b1, .int 0, .int 0, .int 0, .int 0, .ref b6, .ref b7, .ref b8, .ref b9, .ref b10, .ref b11, .ref b12, .ref b13, .ref b14, .ref b15, .ref b16, .ref b17, .int 0, .int (-1), .int (-1), .ref b21, .ref b22, .ref b23, .ref b24, .ref b25, .ref b26, .int 0, .ref b28, .ref b29, .ref b30, .ref b31, .ref b32, .ref b33, .ref b34, .ref b35, .ref b36, .int 0, .int 0, .int 0, .int 0, .int 0, .int 0, .int 0, .int 0, .int 0, .ref b46, .ref b47, .ref b48, .ref b49, .ref b50, .ref b51, .ref b52, .ref b53, .ref b54, .ref b55, .ref b56, .ref b57, .ref b58, .ref b59, .ref b60, .ref b61, .ref b62, .ref b63]))]) (hl : lv_has ls 7 [(0, .ref b), (1, .ref x0), (2, .ref m0), (3, .ref o0), (4, .int 0)]) : W p l e room_1 s m #[Value.ref b] below meth c H locs 97 615458 (lw_Z below #[Value.ref b] s) (F0 m 1217 ls []) := by
  have hx := X.1
  have hb := X.2.1
  have hbA : ¬ (AL s) b := Nat.not_le.mpr hbl
  refine lv_aload_n (pc := 1217) hx hb dL_law_1217 rfl (lv_at hl 1 rfl) ?_
  refine lv_aload_n (pc := 1218) hx hb dL_law_1218 rfl (lv_at hl 0 rfl) ?_
  refine lv_iload (pc := 1219) hx hb dL_law_1219 (lv_at hl 4 rfl) ?_
  refine lv_iconst (v := 1) (pc := 1221) hx hb dL_law_1221 (by decide) ?_
  refine lv_iadd (pc := 1222) hx hb dL_law_1222 ?_
  refine lv_topi (fun v1 ev1 => ?_)
  obtain rfl : v1 = 1 := ev1.trans (by decide +kernel)
  refine va_sld (pc := 1223) hx hb hX hbl hbA hW.2.2 (vp_in_nI (n := 1) (by decide) (by decide)) dL_law_1223 ?_
  refine lv_aload_n (pc := 1224) hx hb dL_law_1224 rfl (lv_at hl 0 rfl) ?_
  refine lv_iload (pc := 1225) hx hb dL_law_1225 (lv_at hl 4 rfl) ?_
  refine lv_iconst (v := 2) (pc := 1227) hx hb dL_law_1227 (by decide) ?_
  refine lv_iadd (pc := 1228) hx hb dL_law_1228 ?_
  refine lv_topi (fun v2 ev2 => ?_)
  obtain rfl : v2 = 2 := ev2.trans (by decide +kernel)
  refine va_sld (pc := 1229) hx hb hX hbl hbA hW.2.2 (vp_in_nI (n := 2) (by decide) (by decide)) dL_law_1229 ?_
  refine c_Vi (pc := 1230) (As := [.int (xs (1 : Int32).toNatClampNeg), .int (xs (2 : Int32).toNatClampNeg)]) (rest := []) (wr := [(m0, .inr (12, [.int 0, .ref b1, .int 0, .int 0, .int 0, .int 0, .ref b6, .ref b7, .ref b8, .ref b9, .ref b10, .ref b11, .ref b12, .ref b13, .ref b14, .ref b15, .ref b16, .ref b17, .int 0, .int (-1), .int (-1), .ref b21, .ref b22, .ref b23, .ref b24, .ref b25, .ref b26, .int 0, .ref b28, .ref b29, .ref b30, .ref b31, .ref b32, .ref b33, .ref b34, .ref b35, .ref b36, .int 0, .int 0, .int 0, .int 0, .int 0, .int 0, .int 0, .int 0, .int 0, .ref b46, .ref b47, .ref b48, .ref b49, .ref b50, .ref b51, .ref b52, .ref b53, .ref b54, .ref b55, .ref b56, .ref b57, .ref b58, .ref b59, .ref b60, .ref b61, .ref b62, .ref b63]))]) X hW 0 ciX11 rfl (C_X11_gossip l g x0 a0 a1 a2 a3 a4 a5 a6 a7 a8 a9 a10 (xs (1 : Int32).toNatClampNeg) (xs (2 : Int32).toNatClampNeg)) vL_119 [0] [1] rfl rfl rfl rfl rfl rfl hl.1 rfl (Nat.le_of_ble_eq_true rfl) ⟨Nat.le_of_ble_eq_true rfl, Nat.le_of_ble_eq_true rfl⟩ ⟨Nat.le_of_ble_eq_true rfl, Nat.le_of_ble_eq_true rfl⟩ dL_law_1230 (fun r3 u9 H locs hq hW => ?_)
  obtain ⟨rfl, rfl⟩ := hq
  have hW : WD g (AL s) s _ _ [(m0, .inr (12, [.int 0, .ref b1, .int 0, .int 0, .int 0, .int 0, .ref b6, .ref b7, .ref b8, .ref b9, .ref b10, .ref b11, .ref b12, .ref b13, .ref b14, .ref b15, .ref b16, .ref b17, .int 0, .int (-1), .int (-1), .ref b21, .ref b22, .ref b23, .ref b24, .ref b25, .ref b26, .int 0, .ref b28, .ref b29, .ref b30, .ref b31, .ref b32, .ref b33, .ref b34, .ref b35, .ref b36, .int 0, .int 0, .int 0, .int 0, .int 0, .int 0, .int 0, .int 0, .int 0, .ref b46, .ref b47, .ref b48, .ref b49, .ref b50, .ref b51, .ref b52, .ref b53, .ref b54, .ref b55, .ref b56, .ref b57, .ref b58, .ref b59, .ref b60, .ref b61, .ref b62, .ref b63])), (x0, .inr (11, [.ref a0, .ref a1, .ref a2, .ref a3, .ref a4, .ref a5, .ref a6, .ref a7, .ref a8, .ref a9, .ref a10, .int 0, .int 0, .int 0]))] := hW
  refine lv_aload_n (pc := 1233) hx hb dL_law_1233 rfl (lv_at hl 2 rfl) ?_
  refine lv_aload_n (pc := 1234) hx hb dL_law_1234 rfl (lv_at hl 0 rfl) ?_
  refine lv_iload (pc := 1235) hx hb dL_law_1235 (lv_at hl 4 rfl) ?_
  refine lv_iconst (v := 1) (pc := 1237) hx hb dL_law_1237 (by decide) ?_
  refine lv_iadd (pc := 1238) hx hb dL_law_1238 ?_
  refine lv_topi (fun v4 ev4 => ?_)
  obtain rfl : v4 = 1 := ev4.trans (by decide +kernel)
  refine va_sld (pc := 1239) hx hb hX hbl hbA hW.2.2 (vp_in_nI (n := 1) (by decide) (by decide)) dL_law_1239 ?_
  refine lv_aload_n (pc := 1240) hx hb dL_law_1240 rfl (lv_at hl 0 rfl) ?_
  refine lv_iload (pc := 1241) hx hb dL_law_1241 (lv_at hl 4 rfl) ?_
  refine lv_iconst (v := 2) (pc := 1243) hx hb dL_law_1243 (by decide) ?_
  refine lv_iadd (pc := 1244) hx hb dL_law_1244 ?_
  refine lv_topi (fun v5 ev5 => ?_)
  obtain rfl : v5 = 2 := ev5.trans (by decide +kernel)
  refine va_sld (pc := 1245) hx hb hX hbl hbA hW.2.2 (vp_in_nI (n := 2) (by decide) (by decide)) dL_law_1245 ?_
  refine c_Vi (pc := 1246) (As := [.int (xs (1 : Int32).toNatClampNeg), .int (xs (2 : Int32).toNatClampNeg)]) (rest := [.int (-1)]) (wr := [(x0, .inr (11, [.ref a0, .ref a1, .ref a2, .ref a3, .ref a4, .ref a5, .ref a6, .ref a7, .ref a8, .ref a9, .ref a10, .int 0, .int 0, .int 0]))]) X hW 0 ciX12 rfl (C_X12_gossip l g m0 b1 b6 b7 b8 b9 b10 b11 b12 b13 b14 b15 b16 b17 b21 b22 b23 b24 b25 b26 b28 b29 b30 b31 b32 b33 b34 b35 b36 b46 b47 b48 b49 b50 b51 b52 b53 b54 b55 b56 b57 b58 b59 b60 b61 b62 b63 (xs (1 : Int32).toNatClampNeg) (xs (2 : Int32).toNatClampNeg)) vL_122 [0] [1] rfl rfl rfl rfl rfl rfl hl.1 rfl (Nat.le_of_ble_eq_true rfl) ⟨Nat.le_of_ble_eq_true rfl, Nat.le_of_ble_eq_true rfl⟩ ⟨Nat.le_of_ble_eq_true rfl, Nat.le_of_ble_eq_true rfl⟩ dL_law_1246 (fun r6 u9 H locs hq hW => ?_)
  obtain ⟨rfl, rfl⟩ := hq
  have hW : WD g (AL s) s _ _ [(x0, .inr (11, [.ref a0, .ref a1, .ref a2, .ref a3, .ref a4, .ref a5, .ref a6, .ref a7, .ref a8, .ref a9, .ref a10, .int 0, .int 0, .int 0])), (m0, .inr (12, [.int 0, .ref b1, .int 0, .int 0, .int 0, .int 0, .ref b6, .ref b7, .ref b8, .ref b9, .ref b10, .ref b11, .ref b12, .ref b13, .ref b14, .ref b15, .ref b16, .ref b17, .int 0, .int (-1), .int (-1), .ref b21, .ref b22, .ref b23, .ref b24, .ref b25, .ref b26, .int 0, .ref b28, .ref b29, .ref b30, .ref b31, .ref b32, .ref b33, .ref b34, .ref b35, .ref b36, .int 0, .int 0, .int 0, .int 0, .int 0, .int 0, .int 0, .int 0, .int 0, .ref b46, .ref b47, .ref b48, .ref b49, .ref b50, .ref b51, .ref b52, .ref b53, .ref b54, .ref b55, .ref b56, .ref b57, .ref b58, .ref b59, .ref b60, .ref b61, .ref b62, .ref b63]))] := hW
  refine lv_icmp_eq (tgt := 1865) (pc := 1249) hx hb dL_law_1249 rfl (fun c7 => ?_) (fun c7 => absurd (by decide) c7)
  exact law_end X hr hX hbl ⟨Nat.le_of_ble_eq_true rfl, Nat.le_of_ble_eq_true rfl⟩ (hW.pick [] rfl rfl) (lv_sub hl [0, 4] rfl)

set_option maxHeartbeats 4000000 in
set_option maxRecDepth 100000 in
theorem law_23 {p : Program} {e : Env} {s : State} {m : MethodId} {below : List Frame} {meth : Method} {c : Code} {l : Launch} {b : Nat} {xs : Nat → Int32} {g : GG} {H : Heap} {locs : List Loc} {ls : Array Slot} {a0 a1 a10 a2 a3 a4 a5 a6 a7 a8 a9 b1 b10 b11 b12 b13 b14 b15 b16 b17 b21 b22 b23 b24 b25 b26 b28 b29 b30 b31 b32 b33 b34 b35 b36 b46 b47 b48 b49 b50 b51 b52 b53 b54 b55 b56 b57 b58 b59 b6 b60 b61 b62 b63 b7 b8 b9 m0 o0 x0 : Nat} (X : CTX p l m meth c cL_law 7 s #[Value.ref b] RL g (AL s)) (hr : meth.sig.returnType = ret) (hX : va_X b 6 xs s s.heap) (hbl : b < s.heap.size) (hW : WD g (AL s) s H locs [(x0, .inr (11, [.ref a0, .ref a1, .ref a2, .ref a3, .ref a4, .ref a5, .ref a6, .ref a7, .ref a8, .ref a9, .ref a10, .int 0, .int 0, .int 0])), (m0, .inr (12, [.int 0, .ref b1, .int 0, .int 0, .int 0, .int 0, .ref b6, .ref b7, .ref b8, .ref b9, .ref b10, .ref b11, .ref b12, .ref b13, .ref b14, .ref b15, .ref b16, .ref b17, .int 0, .int (-1), .int (-1), .ref b21, .ref b22, .ref b23, .ref b24, .ref b25, .ref b26, .int 0, .ref b28, .ref b29, .ref b30, .ref b31, .ref b32, .ref b33, .ref b34, .ref b35, .ref b36, .int 0, .int 0, .int 0, .int 0, .int 0, .int 0, .int 0, .int 0, .int 0, .ref b46, .ref b47, .ref b48, .ref b49, .ref b50, .ref b51, .ref b52, .ref b53, .ref b54, .ref b55, .ref b56, .ref b57, .ref b58, .ref b59, .ref b60, .ref b61, .ref b62, .ref b63]))]) (hl : lv_has ls 7 [(0, .ref b), (1, .ref x0), (2, .ref m0), (3, .ref o0), (4, .int 0)]) : W p l e room_1 s m #[Value.ref b] below meth c H locs 97 615458 (lw_Z below #[Value.ref b] s) (F0 m 1254 ls []) := by
  have hx := X.1
  have hb := X.2.1
  have hbA : ¬ (AL s) b := Nat.not_le.mpr hbl
  refine lv_aload_n (pc := 1254) hx hb dL_law_1254 rfl (lv_at hl 1 rfl) ?_
  refine lv_aload_n (pc := 1255) hx hb dL_law_1255 rfl (lv_at hl 0 rfl) ?_
  refine lv_iload (pc := 1256) hx hb dL_law_1256 (lv_at hl 4 rfl) ?_
  refine lv_iconst (v := 1) (pc := 1258) hx hb dL_law_1258 (by decide) ?_
  refine lv_iadd (pc := 1259) hx hb dL_law_1259 ?_
  refine lv_topi (fun v1 ev1 => ?_)
  obtain rfl : v1 = 1 := ev1.trans (by decide +kernel)
  refine va_sld (pc := 1260) hx hb hX hbl hbA hW.2.2 (vp_in_nI (n := 1) (by decide) (by decide)) dL_law_1260 ?_
  refine lv_aload_n (pc := 1261) hx hb dL_law_1261 rfl (lv_at hl 0 rfl) ?_
  refine lv_iload (pc := 1262) hx hb dL_law_1262 (lv_at hl 4 rfl) ?_
  refine lv_iconst (v := 2) (pc := 1264) hx hb dL_law_1264 (by decide) ?_
  refine lv_iadd (pc := 1265) hx hb dL_law_1265 ?_
  refine lv_topi (fun v2 ev2 => ?_)
  obtain rfl : v2 = 2 := ev2.trans (by decide +kernel)
  refine va_sld (pc := 1266) hx hb hX hbl hbA hW.2.2 (vp_in_nI (n := 2) (by decide) (by decide)) dL_law_1266 ?_
  refine c_Vi (pc := 1267) (As := [.int (xs (1 : Int32).toNatClampNeg), .int (xs (2 : Int32).toNatClampNeg)]) (rest := []) (wr := [(m0, .inr (12, [.int 0, .ref b1, .int 0, .int 0, .int 0, .int 0, .ref b6, .ref b7, .ref b8, .ref b9, .ref b10, .ref b11, .ref b12, .ref b13, .ref b14, .ref b15, .ref b16, .ref b17, .int 0, .int (-1), .int (-1), .ref b21, .ref b22, .ref b23, .ref b24, .ref b25, .ref b26, .int 0, .ref b28, .ref b29, .ref b30, .ref b31, .ref b32, .ref b33, .ref b34, .ref b35, .ref b36, .int 0, .int 0, .int 0, .int 0, .int 0, .int 0, .int 0, .int 0, .int 0, .ref b46, .ref b47, .ref b48, .ref b49, .ref b50, .ref b51, .ref b52, .ref b53, .ref b54, .ref b55, .ref b56, .ref b57, .ref b58, .ref b59, .ref b60, .ref b61, .ref b62, .ref b63]))]) X hW 0 ciX11 rfl (C_X11_ends l g x0 a0 a1 a2 a3 a4 a5 a6 a7 a8 a9 a10 (xs (1 : Int32).toNatClampNeg) (xs (2 : Int32).toNatClampNeg)) vL_123 [0] [1] rfl rfl rfl rfl rfl rfl hl.1 rfl (Nat.le_of_ble_eq_true rfl) ⟨Nat.le_of_ble_eq_true rfl, Nat.le_of_ble_eq_true rfl⟩ ⟨Nat.le_of_ble_eq_true rfl, Nat.le_of_ble_eq_true rfl⟩ dL_law_1267 (fun r3 u9 H locs hq hW => ?_)
  obtain ⟨rfl, rfl⟩ := hq
  have hW : WD g (AL s) s _ _ [(m0, .inr (12, [.int 0, .ref b1, .int 0, .int 0, .int 0, .int 0, .ref b6, .ref b7, .ref b8, .ref b9, .ref b10, .ref b11, .ref b12, .ref b13, .ref b14, .ref b15, .ref b16, .ref b17, .int 0, .int (-1), .int (-1), .ref b21, .ref b22, .ref b23, .ref b24, .ref b25, .ref b26, .int 0, .ref b28, .ref b29, .ref b30, .ref b31, .ref b32, .ref b33, .ref b34, .ref b35, .ref b36, .int 0, .int 0, .int 0, .int 0, .int 0, .int 0, .int 0, .int 0, .int 0, .ref b46, .ref b47, .ref b48, .ref b49, .ref b50, .ref b51, .ref b52, .ref b53, .ref b54, .ref b55, .ref b56, .ref b57, .ref b58, .ref b59, .ref b60, .ref b61, .ref b62, .ref b63])), (x0, .inr (11, [.ref a0, .ref a1, .ref a2, .ref a3, .ref a4, .ref a5, .ref a6, .ref a7, .ref a8, .ref a9, .ref a10, .int 0, .int 0, .int 0]))] := hW
  refine lv_aload_n (pc := 1270) hx hb dL_law_1270 rfl (lv_at hl 2 rfl) ?_
  refine lv_aload_n (pc := 1271) hx hb dL_law_1271 rfl (lv_at hl 0 rfl) ?_
  refine lv_iload (pc := 1272) hx hb dL_law_1272 (lv_at hl 4 rfl) ?_
  refine lv_iconst (v := 1) (pc := 1274) hx hb dL_law_1274 (by decide) ?_
  refine lv_iadd (pc := 1275) hx hb dL_law_1275 ?_
  refine lv_topi (fun v4 ev4 => ?_)
  obtain rfl : v4 = 1 := ev4.trans (by decide +kernel)
  refine va_sld (pc := 1276) hx hb hX hbl hbA hW.2.2 (vp_in_nI (n := 1) (by decide) (by decide)) dL_law_1276 ?_
  refine lv_aload_n (pc := 1277) hx hb dL_law_1277 rfl (lv_at hl 0 rfl) ?_
  refine lv_iload (pc := 1278) hx hb dL_law_1278 (lv_at hl 4 rfl) ?_
  refine lv_iconst (v := 2) (pc := 1280) hx hb dL_law_1280 (by decide) ?_
  refine lv_iadd (pc := 1281) hx hb dL_law_1281 ?_
  refine lv_topi (fun v5 ev5 => ?_)
  obtain rfl : v5 = 2 := ev5.trans (by decide +kernel)
  refine va_sld (pc := 1282) hx hb hX hbl hbA hW.2.2 (vp_in_nI (n := 2) (by decide) (by decide)) dL_law_1282 ?_
  refine c_Vi (pc := 1283) (As := [.int (xs (1 : Int32).toNatClampNeg), .int (xs (2 : Int32).toNatClampNeg)]) (rest := [.int (-1)]) (wr := [(x0, .inr (11, [.ref a0, .ref a1, .ref a2, .ref a3, .ref a4, .ref a5, .ref a6, .ref a7, .ref a8, .ref a9, .ref a10, .int 0, .int 0, .int 0]))]) X hW 0 ciX12 rfl (C_X12_ends l g m0 b1 b6 b7 b8 b9 b10 b11 b12 b13 b14 b15 b16 b17 b21 b22 b23 b24 b25 b26 b28 b29 b30 b31 b32 b33 b34 b35 b36 b46 b47 b48 b49 b50 b51 b52 b53 b54 b55 b56 b57 b58 b59 b60 b61 b62 b63 (xs (1 : Int32).toNatClampNeg) (xs (2 : Int32).toNatClampNeg)) vL_126 [0] [1] rfl rfl rfl rfl rfl rfl hl.1 rfl (Nat.le_of_ble_eq_true rfl) ⟨Nat.le_of_ble_eq_true rfl, Nat.le_of_ble_eq_true rfl⟩ ⟨Nat.le_of_ble_eq_true rfl, Nat.le_of_ble_eq_true rfl⟩ dL_law_1283 (fun r6 u9 H locs hq hW => ?_)
  obtain ⟨rfl, rfl⟩ := hq
  have hW : WD g (AL s) s _ _ [(x0, .inr (11, [.ref a0, .ref a1, .ref a2, .ref a3, .ref a4, .ref a5, .ref a6, .ref a7, .ref a8, .ref a9, .ref a10, .int 0, .int 0, .int 0])), (m0, .inr (12, [.int 0, .ref b1, .int 0, .int 0, .int 0, .int 0, .ref b6, .ref b7, .ref b8, .ref b9, .ref b10, .ref b11, .ref b12, .ref b13, .ref b14, .ref b15, .ref b16, .ref b17, .int 0, .int (-1), .int (-1), .ref b21, .ref b22, .ref b23, .ref b24, .ref b25, .ref b26, .int 0, .ref b28, .ref b29, .ref b30, .ref b31, .ref b32, .ref b33, .ref b34, .ref b35, .ref b36, .int 0, .int 0, .int 0, .int 0, .int 0, .int 0, .int 0, .int 0, .int 0, .ref b46, .ref b47, .ref b48, .ref b49, .ref b50, .ref b51, .ref b52, .ref b53, .ref b54, .ref b55, .ref b56, .ref b57, .ref b58, .ref b59, .ref b60, .ref b61, .ref b62, .ref b63]))] := hW
  refine lv_icmp_eq (tgt := 1865) (pc := 1286) hx hb dL_law_1286 rfl (fun c7 => ?_) (fun c7 => absurd (by decide) c7)
  exact law_end X hr hX hbl ⟨Nat.le_of_ble_eq_true rfl, Nat.le_of_ble_eq_true rfl⟩ (hW.pick [] rfl rfl) (lv_sub hl [0, 4] rfl)

set_option maxHeartbeats 4000000 in
set_option maxRecDepth 100000 in
theorem law_24 {p : Program} {e : Env} {s : State} {m : MethodId} {below : List Frame} {meth : Method} {c : Code} {l : Launch} {b : Nat} {xs : Nat → Int32} {g : GG} {H : Heap} {locs : List Loc} {ls : Array Slot} {a0 a1 a10 a2 a3 a4 a5 a6 a7 a8 a9 b1 b10 b11 b12 b13 b14 b15 b16 b17 b21 b22 b23 b24 b25 b26 b28 b29 b30 b31 b32 b33 b34 b35 b36 b46 b47 b48 b49 b50 b51 b52 b53 b54 b55 b56 b57 b58 b59 b6 b60 b61 b62 b63 b7 b8 b9 m0 o0 x0 : Nat} (X : CTX p l m meth c cL_law 7 s #[Value.ref b] RL g (AL s)) (hr : meth.sig.returnType = ret) (hX : va_X b 6 xs s s.heap) (hbl : b < s.heap.size) (hW : WD g (AL s) s H locs [(x0, .inr (11, [.ref a0, .ref a1, .ref a2, .ref a3, .ref a4, .ref a5, .ref a6, .ref a7, .ref a8, .ref a9, .ref a10, .int 0, .int 0, .int 0])), (m0, .inr (12, [.int 0, .ref b1, .int 0, .int 0, .int 0, .int 0, .ref b6, .ref b7, .ref b8, .ref b9, .ref b10, .ref b11, .ref b12, .ref b13, .ref b14, .ref b15, .ref b16, .ref b17, .int 0, .int (-1), .int (-1), .ref b21, .ref b22, .ref b23, .ref b24, .ref b25, .ref b26, .int 0, .ref b28, .ref b29, .ref b30, .ref b31, .ref b32, .ref b33, .ref b34, .ref b35, .ref b36, .int 0, .int 0, .int 0, .int 0, .int 0, .int 0, .int 0, .int 0, .int 0, .ref b46, .ref b47, .ref b48, .ref b49, .ref b50, .ref b51, .ref b52, .ref b53, .ref b54, .ref b55, .ref b56, .ref b57, .ref b58, .ref b59, .ref b60, .ref b61, .ref b62, .ref b63]))]) (hl : lv_has ls 7 [(0, .ref b), (1, .ref x0), (2, .ref m0), (3, .ref o0), (4, .int 0)]) : W p l e room_1 s m #[Value.ref b] below meth c H locs 97 615458 (lw_Z below #[Value.ref b] s) (F0 m 1291 ls []) := by
  have hx := X.1
  have hb := X.2.1
  have hbA : ¬ (AL s) b := Nat.not_le.mpr hbl
  refine lv_aload_n (pc := 1291) hx hb dL_law_1291 rfl (lv_at hl 1 rfl) ?_
  refine lv_aload_n (pc := 1292) hx hb dL_law_1292 rfl (lv_at hl 0 rfl) ?_
  refine lv_iload (pc := 1293) hx hb dL_law_1293 (lv_at hl 4 rfl) ?_
  refine lv_iconst (v := 1) (pc := 1295) hx hb dL_law_1295 (by decide) ?_
  refine lv_iadd (pc := 1296) hx hb dL_law_1296 ?_
  refine lv_topi (fun v1 ev1 => ?_)
  obtain rfl : v1 = 1 := ev1.trans (by decide +kernel)
  refine va_sld (pc := 1297) hx hb hX hbl hbA hW.2.2 (vp_in_nI (n := 1) (by decide) (by decide)) dL_law_1297 ?_
  refine lv_aload_n (pc := 1298) hx hb dL_law_1298 rfl (lv_at hl 0 rfl) ?_
  refine lv_iload (pc := 1299) hx hb dL_law_1299 (lv_at hl 4 rfl) ?_
  refine lv_iconst (v := 2) (pc := 1301) hx hb dL_law_1301 (by decide) ?_
  refine lv_iadd (pc := 1302) hx hb dL_law_1302 ?_
  refine lv_topi (fun v2 ev2 => ?_)
  obtain rfl : v2 = 2 := ev2.trans (by decide +kernel)
  refine va_sld (pc := 1303) hx hb hX hbl hbA hW.2.2 (vp_in_nI (n := 2) (by decide) (by decide)) dL_law_1303 ?_
  refine lv_aload_n (pc := 1304) hx hb dL_law_1304 rfl (lv_at hl 0 rfl) ?_
  refine lv_iload (pc := 1305) hx hb dL_law_1305 (lv_at hl 4 rfl) ?_
  refine lv_iconst (v := 3) (pc := 1307) hx hb dL_law_1307 (by decide) ?_
  refine lv_iadd (pc := 1308) hx hb dL_law_1308 ?_
  refine lv_topi (fun v3 ev3 => ?_)
  obtain rfl : v3 = 3 := ev3.trans (by decide +kernel)
  refine va_sld (pc := 1309) hx hb hX hbl hbA hW.2.2 (vp_in_nI (n := 3) (by decide) (by decide)) dL_law_1309 ?_
  refine c_Vi (pc := 1310) (As := [.int (xs (1 : Int32).toNatClampNeg), .int (xs (2 : Int32).toNatClampNeg), .int (xs (3 : Int32).toNatClampNeg)]) (rest := []) (wr := [(m0, .inr (12, [.int 0, .ref b1, .int 0, .int 0, .int 0, .int 0, .ref b6, .ref b7, .ref b8, .ref b9, .ref b10, .ref b11, .ref b12, .ref b13, .ref b14, .ref b15, .ref b16, .ref b17, .int 0, .int (-1), .int (-1), .ref b21, .ref b22, .ref b23, .ref b24, .ref b25, .ref b26, .int 0, .ref b28, .ref b29, .ref b30, .ref b31, .ref b32, .ref b33, .ref b34, .ref b35, .ref b36, .int 0, .int 0, .int 0, .int 0, .int 0, .int 0, .int 0, .int 0, .int 0, .ref b46, .ref b47, .ref b48, .ref b49, .ref b50, .ref b51, .ref b52, .ref b53, .ref b54, .ref b55, .ref b56, .ref b57, .ref b58, .ref b59, .ref b60, .ref b61, .ref b62, .ref b63]))]) X hW 0 ciX11 rfl (C_X11_trade l g x0 a0 a1 a2 a3 a4 a5 a6 a7 a8 a9 a10 (xs (1 : Int32).toNatClampNeg) (xs (2 : Int32).toNatClampNeg) (xs (3 : Int32).toNatClampNeg)) vL_127 [0] [1] rfl rfl rfl rfl rfl rfl hl.1 rfl (Nat.le_of_ble_eq_true rfl) ⟨Nat.le_of_ble_eq_true rfl, Nat.le_of_ble_eq_true rfl⟩ ⟨Nat.le_of_ble_eq_true rfl, Nat.le_of_ble_eq_true rfl⟩ dL_law_1310 (fun r4 u9 H locs hq hW => ?_)
  obtain ⟨rfl, rfl⟩ := hq
  have hW : WD g (AL s) s _ _ [(m0, .inr (12, [.int 0, .ref b1, .int 0, .int 0, .int 0, .int 0, .ref b6, .ref b7, .ref b8, .ref b9, .ref b10, .ref b11, .ref b12, .ref b13, .ref b14, .ref b15, .ref b16, .ref b17, .int 0, .int (-1), .int (-1), .ref b21, .ref b22, .ref b23, .ref b24, .ref b25, .ref b26, .int 0, .ref b28, .ref b29, .ref b30, .ref b31, .ref b32, .ref b33, .ref b34, .ref b35, .ref b36, .int 0, .int 0, .int 0, .int 0, .int 0, .int 0, .int 0, .int 0, .int 0, .ref b46, .ref b47, .ref b48, .ref b49, .ref b50, .ref b51, .ref b52, .ref b53, .ref b54, .ref b55, .ref b56, .ref b57, .ref b58, .ref b59, .ref b60, .ref b61, .ref b62, .ref b63])), (x0, .inr (11, [.ref a0, .ref a1, .ref a2, .ref a3, .ref a4, .ref a5, .ref a6, .ref a7, .ref a8, .ref a9, .ref a10, .int 0, .int 0, .int 0]))] := hW
  refine lv_aload_n (pc := 1313) hx hb dL_law_1313 rfl (lv_at hl 2 rfl) ?_
  refine lv_aload_n (pc := 1314) hx hb dL_law_1314 rfl (lv_at hl 0 rfl) ?_
  refine lv_iload (pc := 1315) hx hb dL_law_1315 (lv_at hl 4 rfl) ?_
  refine lv_iconst (v := 1) (pc := 1317) hx hb dL_law_1317 (by decide) ?_
  refine lv_iadd (pc := 1318) hx hb dL_law_1318 ?_
  refine lv_topi (fun v5 ev5 => ?_)
  obtain rfl : v5 = 1 := ev5.trans (by decide +kernel)
  refine va_sld (pc := 1319) hx hb hX hbl hbA hW.2.2 (vp_in_nI (n := 1) (by decide) (by decide)) dL_law_1319 ?_
  refine lv_aload_n (pc := 1320) hx hb dL_law_1320 rfl (lv_at hl 0 rfl) ?_
  refine lv_iload (pc := 1321) hx hb dL_law_1321 (lv_at hl 4 rfl) ?_
  refine lv_iconst (v := 2) (pc := 1323) hx hb dL_law_1323 (by decide) ?_
  refine lv_iadd (pc := 1324) hx hb dL_law_1324 ?_
  refine lv_topi (fun v6 ev6 => ?_)
  obtain rfl : v6 = 2 := ev6.trans (by decide +kernel)
  refine va_sld (pc := 1325) hx hb hX hbl hbA hW.2.2 (vp_in_nI (n := 2) (by decide) (by decide)) dL_law_1325 ?_
  refine lv_aload_n (pc := 1326) hx hb dL_law_1326 rfl (lv_at hl 0 rfl) ?_
  refine lv_iload (pc := 1327) hx hb dL_law_1327 (lv_at hl 4 rfl) ?_
  refine lv_iconst (v := 3) (pc := 1329) hx hb dL_law_1329 (by decide) ?_
  refine lv_iadd (pc := 1330) hx hb dL_law_1330 ?_
  refine lv_topi (fun v7 ev7 => ?_)
  obtain rfl : v7 = 3 := ev7.trans (by decide +kernel)
  refine va_sld (pc := 1331) hx hb hX hbl hbA hW.2.2 (vp_in_nI (n := 3) (by decide) (by decide)) dL_law_1331 ?_
  refine c_Vi (pc := 1332) (As := [.int (xs (1 : Int32).toNatClampNeg), .int (xs (2 : Int32).toNatClampNeg), .int (xs (3 : Int32).toNatClampNeg)]) (rest := [.int (-1)]) (wr := [(x0, .inr (11, [.ref a0, .ref a1, .ref a2, .ref a3, .ref a4, .ref a5, .ref a6, .ref a7, .ref a8, .ref a9, .ref a10, .int 0, .int 0, .int 0]))]) X hW 0 ciX12 rfl (C_X12_trade l g m0 b1 b6 b7 b8 b9 b10 b11 b12 b13 b14 b15 b16 b17 b21 b22 b23 b24 b25 b26 b28 b29 b30 b31 b32 b33 b34 b35 b36 b46 b47 b48 b49 b50 b51 b52 b53 b54 b55 b56 b57 b58 b59 b60 b61 b62 b63 (xs (1 : Int32).toNatClampNeg) (xs (2 : Int32).toNatClampNeg) (xs (3 : Int32).toNatClampNeg)) vL_130 [0] [1] rfl rfl rfl rfl rfl rfl hl.1 rfl (Nat.le_of_ble_eq_true rfl) ⟨Nat.le_of_ble_eq_true rfl, Nat.le_of_ble_eq_true rfl⟩ ⟨Nat.le_of_ble_eq_true rfl, Nat.le_of_ble_eq_true rfl⟩ dL_law_1332 (fun r8 u9 H locs hq hW => ?_)
  obtain ⟨rfl, rfl⟩ := hq
  have hW : WD g (AL s) s _ _ [(x0, .inr (11, [.ref a0, .ref a1, .ref a2, .ref a3, .ref a4, .ref a5, .ref a6, .ref a7, .ref a8, .ref a9, .ref a10, .int 0, .int 0, .int 0])), (m0, .inr (12, [.int 0, .ref b1, .int 0, .int 0, .int 0, .int 0, .ref b6, .ref b7, .ref b8, .ref b9, .ref b10, .ref b11, .ref b12, .ref b13, .ref b14, .ref b15, .ref b16, .ref b17, .int 0, .int (-1), .int (-1), .ref b21, .ref b22, .ref b23, .ref b24, .ref b25, .ref b26, .int 0, .ref b28, .ref b29, .ref b30, .ref b31, .ref b32, .ref b33, .ref b34, .ref b35, .ref b36, .int 0, .int 0, .int 0, .int 0, .int 0, .int 0, .int 0, .int 0, .int 0, .ref b46, .ref b47, .ref b48, .ref b49, .ref b50, .ref b51, .ref b52, .ref b53, .ref b54, .ref b55, .ref b56, .ref b57, .ref b58, .ref b59, .ref b60, .ref b61, .ref b62, .ref b63]))] := hW
  refine lv_icmp_eq (tgt := 1865) (pc := 1335) hx hb dL_law_1335 rfl (fun c9 => ?_) (fun c9 => absurd (by decide) c9)
  exact law_end X hr hX hbl ⟨Nat.le_of_ble_eq_true rfl, Nat.le_of_ble_eq_true rfl⟩ (hW.pick [] rfl rfl) (lv_sub hl [0, 4] rfl)

set_option maxHeartbeats 4000000 in
set_option maxRecDepth 100000 in
theorem law_25 {p : Program} {e : Env} {s : State} {m : MethodId} {below : List Frame} {meth : Method} {c : Code} {l : Launch} {b : Nat} {xs : Nat → Int32} {g : GG} {H : Heap} {locs : List Loc} {ls : Array Slot} {a0 a1 a10 a2 a3 a4 a5 a6 a7 a8 a9 b1 b10 b11 b12 b13 b14 b15 b16 b17 b21 b22 b23 b24 b25 b26 b28 b29 b30 b31 b32 b33 b34 b35 b36 b46 b47 b48 b49 b50 b51 b52 b53 b54 b55 b56 b57 b58 b59 b6 b60 b61 b62 b63 b7 b8 b9 m0 o0 x0 : Nat} (X : CTX p l m meth c cL_law 7 s #[Value.ref b] RL g (AL s)) (hr : meth.sig.returnType = ret) (hX : va_X b 6 xs s s.heap) (hbl : b < s.heap.size) (hW : WD g (AL s) s H locs [(x0, .inr (11, [.ref a0, .ref a1, .ref a2, .ref a3, .ref a4, .ref a5, .ref a6, .ref a7, .ref a8, .ref a9, .ref a10, .int 0, .int 0, .int 0])), (m0, .inr (12, [.int 0, .ref b1, .int 0, .int 0, .int 0, .int 0, .ref b6, .ref b7, .ref b8, .ref b9, .ref b10, .ref b11, .ref b12, .ref b13, .ref b14, .ref b15, .ref b16, .ref b17, .int 0, .int (-1), .int (-1), .ref b21, .ref b22, .ref b23, .ref b24, .ref b25, .ref b26, .int 0, .ref b28, .ref b29, .ref b30, .ref b31, .ref b32, .ref b33, .ref b34, .ref b35, .ref b36, .int 0, .int 0, .int 0, .int 0, .int 0, .int 0, .int 0, .int 0, .int 0, .ref b46, .ref b47, .ref b48, .ref b49, .ref b50, .ref b51, .ref b52, .ref b53, .ref b54, .ref b55, .ref b56, .ref b57, .ref b58, .ref b59, .ref b60, .ref b61, .ref b62, .ref b63]))]) (hl : lv_has ls 7 [(0, .ref b), (1, .ref x0), (2, .ref m0), (3, .ref o0), (4, .int 0)]) : W p l e room_1 s m #[Value.ref b] below meth c H locs 97 615458 (lw_Z below #[Value.ref b] s) (F0 m 1340 ls []) := by
  have hx := X.1
  have hb := X.2.1
  have hbA : ¬ (AL s) b := Nat.not_le.mpr hbl
  refine lv_aload_n (pc := 1340) hx hb dL_law_1340 rfl (lv_at hl 1 rfl) ?_
  refine lv_aload_n (pc := 1341) hx hb dL_law_1341 rfl (lv_at hl 0 rfl) ?_
  refine lv_iload (pc := 1342) hx hb dL_law_1342 (lv_at hl 4 rfl) ?_
  refine lv_iconst (v := 1) (pc := 1344) hx hb dL_law_1344 (by decide) ?_
  refine lv_iadd (pc := 1345) hx hb dL_law_1345 ?_
  refine lv_topi (fun v1 ev1 => ?_)
  obtain rfl : v1 = 1 := ev1.trans (by decide +kernel)
  refine va_sld (pc := 1346) hx hb hX hbl hbA hW.2.2 (vp_in_nI (n := 1) (by decide) (by decide)) dL_law_1346 ?_
  refine lv_aload_n (pc := 1347) hx hb dL_law_1347 rfl (lv_at hl 0 rfl) ?_
  refine lv_iload (pc := 1348) hx hb dL_law_1348 (lv_at hl 4 rfl) ?_
  refine lv_iconst (v := 2) (pc := 1350) hx hb dL_law_1350 (by decide) ?_
  refine lv_iadd (pc := 1351) hx hb dL_law_1351 ?_
  refine lv_topi (fun v2 ev2 => ?_)
  obtain rfl : v2 = 2 := ev2.trans (by decide +kernel)
  refine va_sld (pc := 1352) hx hb hX hbl hbA hW.2.2 (vp_in_nI (n := 2) (by decide) (by decide)) dL_law_1352 ?_
  refine lv_aload_n (pc := 1353) hx hb dL_law_1353 rfl (lv_at hl 0 rfl) ?_
  refine lv_iload (pc := 1354) hx hb dL_law_1354 (lv_at hl 4 rfl) ?_
  refine lv_iconst (v := 3) (pc := 1356) hx hb dL_law_1356 (by decide) ?_
  refine lv_iadd (pc := 1357) hx hb dL_law_1357 ?_
  refine lv_topi (fun v3 ev3 => ?_)
  obtain rfl : v3 = 3 := ev3.trans (by decide +kernel)
  refine va_sld (pc := 1358) hx hb hX hbl hbA hW.2.2 (vp_in_nI (n := 3) (by decide) (by decide)) dL_law_1358 ?_
  refine c_Vi (pc := 1359) (As := [.int (xs (1 : Int32).toNatClampNeg), .int (xs (2 : Int32).toNatClampNeg), .int (xs (3 : Int32).toNatClampNeg)]) (rest := []) (wr := [(m0, .inr (12, [.int 0, .ref b1, .int 0, .int 0, .int 0, .int 0, .ref b6, .ref b7, .ref b8, .ref b9, .ref b10, .ref b11, .ref b12, .ref b13, .ref b14, .ref b15, .ref b16, .ref b17, .int 0, .int (-1), .int (-1), .ref b21, .ref b22, .ref b23, .ref b24, .ref b25, .ref b26, .int 0, .ref b28, .ref b29, .ref b30, .ref b31, .ref b32, .ref b33, .ref b34, .ref b35, .ref b36, .int 0, .int 0, .int 0, .int 0, .int 0, .int 0, .int 0, .int 0, .int 0, .ref b46, .ref b47, .ref b48, .ref b49, .ref b50, .ref b51, .ref b52, .ref b53, .ref b54, .ref b55, .ref b56, .ref b57, .ref b58, .ref b59, .ref b60, .ref b61, .ref b62, .ref b63]))]) X hW 0 ciX11 rfl (C_X11_card l g x0 a0 a1 a2 a3 a4 a5 a6 a7 a8 a9 a10 (xs (1 : Int32).toNatClampNeg) (xs (2 : Int32).toNatClampNeg) (xs (3 : Int32).toNatClampNeg)) vL_131 [0] [1] rfl rfl rfl rfl rfl rfl hl.1 rfl (Nat.le_of_ble_eq_true rfl) ⟨Nat.le_of_ble_eq_true rfl, Nat.le_of_ble_eq_true rfl⟩ ⟨Nat.le_of_ble_eq_true rfl, Nat.le_of_ble_eq_true rfl⟩ dL_law_1359 (fun r4 u9 H locs hq hW => ?_)
  obtain ⟨rfl, rfl⟩ := hq
  have hW : WD g (AL s) s _ _ [(m0, .inr (12, [.int 0, .ref b1, .int 0, .int 0, .int 0, .int 0, .ref b6, .ref b7, .ref b8, .ref b9, .ref b10, .ref b11, .ref b12, .ref b13, .ref b14, .ref b15, .ref b16, .ref b17, .int 0, .int (-1), .int (-1), .ref b21, .ref b22, .ref b23, .ref b24, .ref b25, .ref b26, .int 0, .ref b28, .ref b29, .ref b30, .ref b31, .ref b32, .ref b33, .ref b34, .ref b35, .ref b36, .int 0, .int 0, .int 0, .int 0, .int 0, .int 0, .int 0, .int 0, .int 0, .ref b46, .ref b47, .ref b48, .ref b49, .ref b50, .ref b51, .ref b52, .ref b53, .ref b54, .ref b55, .ref b56, .ref b57, .ref b58, .ref b59, .ref b60, .ref b61, .ref b62, .ref b63])), (x0, .inr (11, [.ref a0, .ref a1, .ref a2, .ref a3, .ref a4, .ref a5, .ref a6, .ref a7, .ref a8, .ref a9, .ref a10, .int 0, .int 0, .int 0]))] := hW
  refine lv_aload_n (pc := 1362) hx hb dL_law_1362 rfl (lv_at hl 2 rfl) ?_
  refine lv_aload_n (pc := 1363) hx hb dL_law_1363 rfl (lv_at hl 0 rfl) ?_
  refine lv_iload (pc := 1364) hx hb dL_law_1364 (lv_at hl 4 rfl) ?_
  refine lv_iconst (v := 1) (pc := 1366) hx hb dL_law_1366 (by decide) ?_
  refine lv_iadd (pc := 1367) hx hb dL_law_1367 ?_
  refine lv_topi (fun v5 ev5 => ?_)
  obtain rfl : v5 = 1 := ev5.trans (by decide +kernel)
  refine va_sld (pc := 1368) hx hb hX hbl hbA hW.2.2 (vp_in_nI (n := 1) (by decide) (by decide)) dL_law_1368 ?_
  refine lv_aload_n (pc := 1369) hx hb dL_law_1369 rfl (lv_at hl 0 rfl) ?_
  refine lv_iload (pc := 1370) hx hb dL_law_1370 (lv_at hl 4 rfl) ?_
  refine lv_iconst (v := 2) (pc := 1372) hx hb dL_law_1372 (by decide) ?_
  refine lv_iadd (pc := 1373) hx hb dL_law_1373 ?_
  refine lv_topi (fun v6 ev6 => ?_)
  obtain rfl : v6 = 2 := ev6.trans (by decide +kernel)
  refine va_sld (pc := 1374) hx hb hX hbl hbA hW.2.2 (vp_in_nI (n := 2) (by decide) (by decide)) dL_law_1374 ?_
  refine lv_aload_n (pc := 1375) hx hb dL_law_1375 rfl (lv_at hl 0 rfl) ?_
  refine lv_iload (pc := 1376) hx hb dL_law_1376 (lv_at hl 4 rfl) ?_
  refine lv_iconst (v := 3) (pc := 1378) hx hb dL_law_1378 (by decide) ?_
  refine lv_iadd (pc := 1379) hx hb dL_law_1379 ?_
  refine lv_topi (fun v7 ev7 => ?_)
  obtain rfl : v7 = 3 := ev7.trans (by decide +kernel)
  refine va_sld (pc := 1380) hx hb hX hbl hbA hW.2.2 (vp_in_nI (n := 3) (by decide) (by decide)) dL_law_1380 ?_
  refine c_Vi (pc := 1381) (As := [.int (xs (1 : Int32).toNatClampNeg), .int (xs (2 : Int32).toNatClampNeg), .int (xs (3 : Int32).toNatClampNeg)]) (rest := [.int (-1)]) (wr := [(x0, .inr (11, [.ref a0, .ref a1, .ref a2, .ref a3, .ref a4, .ref a5, .ref a6, .ref a7, .ref a8, .ref a9, .ref a10, .int 0, .int 0, .int 0]))]) X hW 0 ciX12 rfl (C_X12_card l g m0 b1 b6 b7 b8 b9 b10 b11 b12 b13 b14 b15 b16 b17 b21 b22 b23 b24 b25 b26 b28 b29 b30 b31 b32 b33 b34 b35 b36 b46 b47 b48 b49 b50 b51 b52 b53 b54 b55 b56 b57 b58 b59 b60 b61 b62 b63 (xs (1 : Int32).toNatClampNeg) (xs (2 : Int32).toNatClampNeg) (xs (3 : Int32).toNatClampNeg)) vL_134 [0] [1] rfl rfl rfl rfl rfl rfl hl.1 rfl (Nat.le_of_ble_eq_true rfl) ⟨Nat.le_of_ble_eq_true rfl, Nat.le_of_ble_eq_true rfl⟩ ⟨Nat.le_of_ble_eq_true rfl, Nat.le_of_ble_eq_true rfl⟩ dL_law_1381 (fun r8 u9 H locs hq hW => ?_)
  obtain ⟨rfl, rfl⟩ := hq
  have hW : WD g (AL s) s _ _ [(x0, .inr (11, [.ref a0, .ref a1, .ref a2, .ref a3, .ref a4, .ref a5, .ref a6, .ref a7, .ref a8, .ref a9, .ref a10, .int 0, .int 0, .int 0])), (m0, .inr (12, [.int 0, .ref b1, .int 0, .int 0, .int 0, .int 0, .ref b6, .ref b7, .ref b8, .ref b9, .ref b10, .ref b11, .ref b12, .ref b13, .ref b14, .ref b15, .ref b16, .ref b17, .int 0, .int (-1), .int (-1), .ref b21, .ref b22, .ref b23, .ref b24, .ref b25, .ref b26, .int 0, .ref b28, .ref b29, .ref b30, .ref b31, .ref b32, .ref b33, .ref b34, .ref b35, .ref b36, .int 0, .int 0, .int 0, .int 0, .int 0, .int 0, .int 0, .int 0, .int 0, .ref b46, .ref b47, .ref b48, .ref b49, .ref b50, .ref b51, .ref b52, .ref b53, .ref b54, .ref b55, .ref b56, .ref b57, .ref b58, .ref b59, .ref b60, .ref b61, .ref b62, .ref b63]))] := hW
  refine lv_icmp_eq (tgt := 1865) (pc := 1384) hx hb dL_law_1384 rfl (fun c9 => ?_) (fun c9 => absurd (by decide) c9)
  exact law_end X hr hX hbl ⟨Nat.le_of_ble_eq_true rfl, Nat.le_of_ble_eq_true rfl⟩ (hW.pick [] rfl rfl) (lv_sub hl [0, 4] rfl)

set_option maxHeartbeats 4000000 in
set_option maxRecDepth 100000 in
theorem law_26 {p : Program} {e : Env} {s : State} {m : MethodId} {below : List Frame} {meth : Method} {c : Code} {l : Launch} {b : Nat} {xs : Nat → Int32} {g : GG} {H : Heap} {locs : List Loc} {ls : Array Slot} {a0 a1 a10 a2 a3 a4 a5 a6 a7 a8 a9 b1 b10 b11 b12 b13 b14 b15 b16 b17 b21 b22 b23 b24 b25 b26 b28 b29 b30 b31 b32 b33 b34 b35 b36 b46 b47 b48 b49 b50 b51 b52 b53 b54 b55 b56 b57 b58 b59 b6 b60 b61 b62 b63 b7 b8 b9 m0 o0 x0 : Nat} (X : CTX p l m meth c cL_law 7 s #[Value.ref b] RL g (AL s)) (hr : meth.sig.returnType = ret) (hX : va_X b 6 xs s s.heap) (hbl : b < s.heap.size) (hW : WD g (AL s) s H locs [(x0, .inr (11, [.ref a0, .ref a1, .ref a2, .ref a3, .ref a4, .ref a5, .ref a6, .ref a7, .ref a8, .ref a9, .ref a10, .int 0, .int 0, .int 0])), (m0, .inr (12, [.int 0, .ref b1, .int 0, .int 0, .int 0, .int 0, .ref b6, .ref b7, .ref b8, .ref b9, .ref b10, .ref b11, .ref b12, .ref b13, .ref b14, .ref b15, .ref b16, .ref b17, .int 0, .int (-1), .int (-1), .ref b21, .ref b22, .ref b23, .ref b24, .ref b25, .ref b26, .int 0, .ref b28, .ref b29, .ref b30, .ref b31, .ref b32, .ref b33, .ref b34, .ref b35, .ref b36, .int 0, .int 0, .int 0, .int 0, .int 0, .int 0, .int 0, .int 0, .int 0, .ref b46, .ref b47, .ref b48, .ref b49, .ref b50, .ref b51, .ref b52, .ref b53, .ref b54, .ref b55, .ref b56, .ref b57, .ref b58, .ref b59, .ref b60, .ref b61, .ref b62, .ref b63]))]) (hl : lv_has ls 7 [(0, .ref b), (1, .ref x0), (2, .ref m0), (3, .ref o0), (4, .int 0)]) : W p l e room_1 s m #[Value.ref b] below meth c H locs 97 615458 (lw_Z below #[Value.ref b] s) (F0 m 1389 ls []) := by
  have hx := X.1
  have hb := X.2.1
  have hbA : ¬ (AL s) b := Nat.not_le.mpr hbl
  refine lv_aload_n (pc := 1389) hx hb dL_law_1389 rfl (lv_at hl 1 rfl) ?_
  refine lv_aload_n (pc := 1390) hx hb dL_law_1390 rfl (lv_at hl 0 rfl) ?_
  refine lv_iload (pc := 1391) hx hb dL_law_1391 (lv_at hl 4 rfl) ?_
  refine lv_iconst (v := 1) (pc := 1393) hx hb dL_law_1393 (by decide) ?_
  refine lv_iadd (pc := 1394) hx hb dL_law_1394 ?_
  refine lv_topi (fun v1 ev1 => ?_)
  obtain rfl : v1 = 1 := ev1.trans (by decide +kernel)
  refine va_sld (pc := 1395) hx hb hX hbl hbA hW.2.2 (vp_in_nI (n := 1) (by decide) (by decide)) dL_law_1395 ?_
  refine c_Vi (pc := 1396) (As := [.int (xs (1 : Int32).toNatClampNeg)]) (rest := []) (wr := [(m0, .inr (12, [.int 0, .ref b1, .int 0, .int 0, .int 0, .int 0, .ref b6, .ref b7, .ref b8, .ref b9, .ref b10, .ref b11, .ref b12, .ref b13, .ref b14, .ref b15, .ref b16, .ref b17, .int 0, .int (-1), .int (-1), .ref b21, .ref b22, .ref b23, .ref b24, .ref b25, .ref b26, .int 0, .ref b28, .ref b29, .ref b30, .ref b31, .ref b32, .ref b33, .ref b34, .ref b35, .ref b36, .int 0, .int 0, .int 0, .int 0, .int 0, .int 0, .int 0, .int 0, .int 0, .ref b46, .ref b47, .ref b48, .ref b49, .ref b50, .ref b51, .ref b52, .ref b53, .ref b54, .ref b55, .ref b56, .ref b57, .ref b58, .ref b59, .ref b60, .ref b61, .ref b62, .ref b63]))]) X hW 0 ciX11 rfl (C_X11_blank l g x0 a0 a1 a2 a3 a4 a5 a6 a7 a8 a9 a10 (xs (1 : Int32).toNatClampNeg)) vL_135 [0] [1] rfl rfl rfl rfl rfl rfl hl.1 rfl (Nat.le_of_ble_eq_true rfl) ⟨Nat.le_of_ble_eq_true rfl, Nat.le_of_ble_eq_true rfl⟩ ⟨Nat.le_of_ble_eq_true rfl, Nat.le_of_ble_eq_true rfl⟩ dL_law_1396 (fun r2 u9 H locs hq hW => ?_)
  obtain ⟨rfl, rfl⟩ := hq
  have hW : WD g (AL s) s _ _ [(m0, .inr (12, [.int 0, .ref b1, .int 0, .int 0, .int 0, .int 0, .ref b6, .ref b7, .ref b8, .ref b9, .ref b10, .ref b11, .ref b12, .ref b13, .ref b14, .ref b15, .ref b16, .ref b17, .int 0, .int (-1), .int (-1), .ref b21, .ref b22, .ref b23, .ref b24, .ref b25, .ref b26, .int 0, .ref b28, .ref b29, .ref b30, .ref b31, .ref b32, .ref b33, .ref b34, .ref b35, .ref b36, .int 0, .int 0, .int 0, .int 0, .int 0, .int 0, .int 0, .int 0, .int 0, .ref b46, .ref b47, .ref b48, .ref b49, .ref b50, .ref b51, .ref b52, .ref b53, .ref b54, .ref b55, .ref b56, .ref b57, .ref b58, .ref b59, .ref b60, .ref b61, .ref b62, .ref b63])), (x0, .inr (11, [.ref a0, .ref a1, .ref a2, .ref a3, .ref a4, .ref a5, .ref a6, .ref a7, .ref a8, .ref a9, .ref a10, .int 0, .int 0, .int 0]))] := hW
  refine lv_aload_n (pc := 1399) hx hb dL_law_1399 rfl (lv_at hl 2 rfl) ?_
  refine lv_aload_n (pc := 1400) hx hb dL_law_1400 rfl (lv_at hl 0 rfl) ?_
  refine lv_iload (pc := 1401) hx hb dL_law_1401 (lv_at hl 4 rfl) ?_
  refine lv_iconst (v := 1) (pc := 1403) hx hb dL_law_1403 (by decide) ?_
  refine lv_iadd (pc := 1404) hx hb dL_law_1404 ?_
  refine lv_topi (fun v3 ev3 => ?_)
  obtain rfl : v3 = 1 := ev3.trans (by decide +kernel)
  refine va_sld (pc := 1405) hx hb hX hbl hbA hW.2.2 (vp_in_nI (n := 1) (by decide) (by decide)) dL_law_1405 ?_
  refine c_Vi (pc := 1406) (As := [.int (xs (1 : Int32).toNatClampNeg)]) (rest := [.int 0]) (wr := [(x0, .inr (11, [.ref a0, .ref a1, .ref a2, .ref a3, .ref a4, .ref a5, .ref a6, .ref a7, .ref a8, .ref a9, .ref a10, .int 0, .int 0, .int 0]))]) X hW 0 ciX12 rfl (C_X12_blank l g m0 b1 b6 b7 b8 b9 b10 b11 b12 b13 b14 b15 b16 b17 b21 b22 b23 b24 b25 b26 b28 b29 b30 b31 b32 b33 b34 b35 b36 b46 b47 b48 b49 b50 b51 b52 b53 b54 b55 b56 b57 b58 b59 b60 b61 b62 b63 (xs (1 : Int32).toNatClampNeg)) vL_138 [0] [1] rfl rfl rfl rfl rfl rfl hl.1 rfl (Nat.le_of_ble_eq_true rfl) ⟨Nat.le_of_ble_eq_true rfl, Nat.le_of_ble_eq_true rfl⟩ ⟨Nat.le_of_ble_eq_true rfl, Nat.le_of_ble_eq_true rfl⟩ dL_law_1406 (fun r4 u9 H locs hq hW => ?_)
  obtain ⟨rfl, rfl⟩ := hq
  have hW : WD g (AL s) s _ _ [(x0, .inr (11, [.ref a0, .ref a1, .ref a2, .ref a3, .ref a4, .ref a5, .ref a6, .ref a7, .ref a8, .ref a9, .ref a10, .int 0, .int 0, .int 0])), (m0, .inr (12, [.int 0, .ref b1, .int 0, .int 0, .int 0, .int 0, .ref b6, .ref b7, .ref b8, .ref b9, .ref b10, .ref b11, .ref b12, .ref b13, .ref b14, .ref b15, .ref b16, .ref b17, .int 0, .int (-1), .int (-1), .ref b21, .ref b22, .ref b23, .ref b24, .ref b25, .ref b26, .int 0, .ref b28, .ref b29, .ref b30, .ref b31, .ref b32, .ref b33, .ref b34, .ref b35, .ref b36, .int 0, .int 0, .int 0, .int 0, .int 0, .int 0, .int 0, .int 0, .int 0, .ref b46, .ref b47, .ref b48, .ref b49, .ref b50, .ref b51, .ref b52, .ref b53, .ref b54, .ref b55, .ref b56, .ref b57, .ref b58, .ref b59, .ref b60, .ref b61, .ref b62, .ref b63]))] := hW
  refine lv_icmp_eq (tgt := 1865) (pc := 1409) hx hb dL_law_1409 rfl (fun c5 => ?_) (fun c5 => absurd (by decide) c5)
  exact law_end X hr hX hbl ⟨Nat.le_of_ble_eq_true rfl, Nat.le_of_ble_eq_true rfl⟩ (hW.pick [] rfl rfl) (lv_sub hl [0, 4] rfl)

set_option maxHeartbeats 4000000 in
set_option maxRecDepth 100000 in
theorem law_27 {p : Program} {e : Env} {s : State} {m : MethodId} {below : List Frame} {meth : Method} {c : Code} {l : Launch} {b : Nat} {xs : Nat → Int32} {g : GG} {H : Heap} {locs : List Loc} {ls : Array Slot} {a0 a1 a10 a2 a3 a4 a5 a6 a7 a8 a9 b1 b10 b11 b12 b13 b14 b15 b16 b17 b21 b22 b23 b24 b25 b26 b28 b29 b30 b31 b32 b33 b34 b35 b36 b46 b47 b48 b49 b50 b51 b52 b53 b54 b55 b56 b57 b58 b59 b6 b60 b61 b62 b63 b7 b8 b9 m0 o0 x0 : Nat} (X : CTX p l m meth c cL_law 7 s #[Value.ref b] RL g (AL s)) (hr : meth.sig.returnType = ret) (hX : va_X b 6 xs s s.heap) (hbl : b < s.heap.size) (hW : WD g (AL s) s H locs [(x0, .inr (11, [.ref a0, .ref a1, .ref a2, .ref a3, .ref a4, .ref a5, .ref a6, .ref a7, .ref a8, .ref a9, .ref a10, .int 0, .int 0, .int 0])), (m0, .inr (12, [.int 0, .ref b1, .int 0, .int 0, .int 0, .int 0, .ref b6, .ref b7, .ref b8, .ref b9, .ref b10, .ref b11, .ref b12, .ref b13, .ref b14, .ref b15, .ref b16, .ref b17, .int 0, .int (-1), .int (-1), .ref b21, .ref b22, .ref b23, .ref b24, .ref b25, .ref b26, .int 0, .ref b28, .ref b29, .ref b30, .ref b31, .ref b32, .ref b33, .ref b34, .ref b35, .ref b36, .int 0, .int 0, .int 0, .int 0, .int 0, .int 0, .int 0, .int 0, .int 0, .ref b46, .ref b47, .ref b48, .ref b49, .ref b50, .ref b51, .ref b52, .ref b53, .ref b54, .ref b55, .ref b56, .ref b57, .ref b58, .ref b59, .ref b60, .ref b61, .ref b62, .ref b63]))]) (hl : lv_has ls 7 [(0, .ref b), (1, .ref x0), (2, .ref m0), (3, .ref o0), (4, .int 0)]) : W p l e room_1 s m #[Value.ref b] below meth c H locs 97 615458 (lw_Z below #[Value.ref b] s) (F0 m 1414 ls []) := by
  have hx := X.1
  have hb := X.2.1
  have hbA : ¬ (AL s) b := Nat.not_le.mpr hbl
  refine lv_aload_n (pc := 1414) hx hb dL_law_1414 rfl (lv_at hl 1 rfl) ?_
  refine lv_aload_n (pc := 1415) hx hb dL_law_1415 rfl (lv_at hl 0 rfl) ?_
  refine lv_iload (pc := 1416) hx hb dL_law_1416 (lv_at hl 4 rfl) ?_
  refine lv_iconst (v := 1) (pc := 1418) hx hb dL_law_1418 (by decide) ?_
  refine lv_iadd (pc := 1419) hx hb dL_law_1419 ?_
  refine lv_topi (fun v1 ev1 => ?_)
  obtain rfl : v1 = 1 := ev1.trans (by decide +kernel)
  refine va_sld (pc := 1420) hx hb hX hbl hbA hW.2.2 (vp_in_nI (n := 1) (by decide) (by decide)) dL_law_1420 ?_
  refine lv_aload_n (pc := 1421) hx hb dL_law_1421 rfl (lv_at hl 0 rfl) ?_
  refine lv_iload (pc := 1422) hx hb dL_law_1422 (lv_at hl 4 rfl) ?_
  refine lv_iconst (v := 2) (pc := 1424) hx hb dL_law_1424 (by decide) ?_
  refine lv_iadd (pc := 1425) hx hb dL_law_1425 ?_
  refine lv_topi (fun v2 ev2 => ?_)
  obtain rfl : v2 = 2 := ev2.trans (by decide +kernel)
  refine va_sld (pc := 1426) hx hb hX hbl hbA hW.2.2 (vp_in_nI (n := 2) (by decide) (by decide)) dL_law_1426 ?_
  refine c_Vi (pc := 1427) (As := [.int (xs (1 : Int32).toNatClampNeg), .int (xs (2 : Int32).toNatClampNeg)]) (rest := []) (wr := [(m0, .inr (12, [.int 0, .ref b1, .int 0, .int 0, .int 0, .int 0, .ref b6, .ref b7, .ref b8, .ref b9, .ref b10, .ref b11, .ref b12, .ref b13, .ref b14, .ref b15, .ref b16, .ref b17, .int 0, .int (-1), .int (-1), .ref b21, .ref b22, .ref b23, .ref b24, .ref b25, .ref b26, .int 0, .ref b28, .ref b29, .ref b30, .ref b31, .ref b32, .ref b33, .ref b34, .ref b35, .ref b36, .int 0, .int 0, .int 0, .int 0, .int 0, .int 0, .int 0, .int 0, .int 0, .ref b46, .ref b47, .ref b48, .ref b49, .ref b50, .ref b51, .ref b52, .ref b53, .ref b54, .ref b55, .ref b56, .ref b57, .ref b58, .ref b59, .ref b60, .ref b61, .ref b62, .ref b63]))]) X hW 0 ciX11 rfl (C_X11_kept l g x0 a0 a1 a2 a3 a4 a5 a6 a7 a8 a9 a10 (xs (1 : Int32).toNatClampNeg) (xs (2 : Int32).toNatClampNeg)) vL_139 [0] [1] rfl rfl rfl rfl rfl rfl hl.1 rfl (Nat.le_of_ble_eq_true rfl) ⟨Nat.le_of_ble_eq_true rfl, Nat.le_of_ble_eq_true rfl⟩ ⟨Nat.le_of_ble_eq_true rfl, Nat.le_of_ble_eq_true rfl⟩ dL_law_1427 (fun r3 u9 H locs hq hW => ?_)
  obtain ⟨rfl, rfl⟩ := hq
  have hW : WD g (AL s) s _ _ [(m0, .inr (12, [.int 0, .ref b1, .int 0, .int 0, .int 0, .int 0, .ref b6, .ref b7, .ref b8, .ref b9, .ref b10, .ref b11, .ref b12, .ref b13, .ref b14, .ref b15, .ref b16, .ref b17, .int 0, .int (-1), .int (-1), .ref b21, .ref b22, .ref b23, .ref b24, .ref b25, .ref b26, .int 0, .ref b28, .ref b29, .ref b30, .ref b31, .ref b32, .ref b33, .ref b34, .ref b35, .ref b36, .int 0, .int 0, .int 0, .int 0, .int 0, .int 0, .int 0, .int 0, .int 0, .ref b46, .ref b47, .ref b48, .ref b49, .ref b50, .ref b51, .ref b52, .ref b53, .ref b54, .ref b55, .ref b56, .ref b57, .ref b58, .ref b59, .ref b60, .ref b61, .ref b62, .ref b63])), (x0, .inr (11, [.ref a0, .ref a1, .ref a2, .ref a3, .ref a4, .ref a5, .ref a6, .ref a7, .ref a8, .ref a9, .ref a10, .int 0, .int 0, .int 0]))] := hW
  refine lv_aload_n (pc := 1430) hx hb dL_law_1430 rfl (lv_at hl 2 rfl) ?_
  refine lv_aload_n (pc := 1431) hx hb dL_law_1431 rfl (lv_at hl 0 rfl) ?_
  refine lv_iload (pc := 1432) hx hb dL_law_1432 (lv_at hl 4 rfl) ?_
  refine lv_iconst (v := 1) (pc := 1434) hx hb dL_law_1434 (by decide) ?_
  refine lv_iadd (pc := 1435) hx hb dL_law_1435 ?_
  refine lv_topi (fun v4 ev4 => ?_)
  obtain rfl : v4 = 1 := ev4.trans (by decide +kernel)
  refine va_sld (pc := 1436) hx hb hX hbl hbA hW.2.2 (vp_in_nI (n := 1) (by decide) (by decide)) dL_law_1436 ?_
  refine lv_aload_n (pc := 1437) hx hb dL_law_1437 rfl (lv_at hl 0 rfl) ?_
  refine lv_iload (pc := 1438) hx hb dL_law_1438 (lv_at hl 4 rfl) ?_
  refine lv_iconst (v := 2) (pc := 1440) hx hb dL_law_1440 (by decide) ?_
  refine lv_iadd (pc := 1441) hx hb dL_law_1441 ?_
  refine lv_topi (fun v5 ev5 => ?_)
  obtain rfl : v5 = 2 := ev5.trans (by decide +kernel)
  refine va_sld (pc := 1442) hx hb hX hbl hbA hW.2.2 (vp_in_nI (n := 2) (by decide) (by decide)) dL_law_1442 ?_
  refine c_Vi (pc := 1443) (As := [.int (xs (1 : Int32).toNatClampNeg), .int (xs (2 : Int32).toNatClampNeg)]) (rest := [.int (-1)]) (wr := [(x0, .inr (11, [.ref a0, .ref a1, .ref a2, .ref a3, .ref a4, .ref a5, .ref a6, .ref a7, .ref a8, .ref a9, .ref a10, .int 0, .int 0, .int 0]))]) X hW 0 ciX12 rfl (C_X12_kept l g m0 b1 b6 b7 b8 b9 b10 b11 b12 b13 b14 b15 b16 b17 b21 b22 b23 b24 b25 b26 b28 b29 b30 b31 b32 b33 b34 b35 b36 b46 b47 b48 b49 b50 b51 b52 b53 b54 b55 b56 b57 b58 b59 b60 b61 b62 b63 (xs (1 : Int32).toNatClampNeg) (xs (2 : Int32).toNatClampNeg)) vL_142 [0] [1] rfl rfl rfl rfl rfl rfl hl.1 rfl (Nat.le_of_ble_eq_true rfl) ⟨Nat.le_of_ble_eq_true rfl, Nat.le_of_ble_eq_true rfl⟩ ⟨Nat.le_of_ble_eq_true rfl, Nat.le_of_ble_eq_true rfl⟩ dL_law_1443 (fun r6 u9 H locs hq hW => ?_)
  obtain ⟨rfl, rfl⟩ := hq
  have hW : WD g (AL s) s _ _ [(x0, .inr (11, [.ref a0, .ref a1, .ref a2, .ref a3, .ref a4, .ref a5, .ref a6, .ref a7, .ref a8, .ref a9, .ref a10, .int 0, .int 0, .int 0])), (m0, .inr (12, [.int 0, .ref b1, .int 0, .int 0, .int 0, .int 0, .ref b6, .ref b7, .ref b8, .ref b9, .ref b10, .ref b11, .ref b12, .ref b13, .ref b14, .ref b15, .ref b16, .ref b17, .int 0, .int (-1), .int (-1), .ref b21, .ref b22, .ref b23, .ref b24, .ref b25, .ref b26, .int 0, .ref b28, .ref b29, .ref b30, .ref b31, .ref b32, .ref b33, .ref b34, .ref b35, .ref b36, .int 0, .int 0, .int 0, .int 0, .int 0, .int 0, .int 0, .int 0, .int 0, .ref b46, .ref b47, .ref b48, .ref b49, .ref b50, .ref b51, .ref b52, .ref b53, .ref b54, .ref b55, .ref b56, .ref b57, .ref b58, .ref b59, .ref b60, .ref b61, .ref b62, .ref b63]))] := hW
  refine lv_icmp_eq (tgt := 1865) (pc := 1446) hx hb dL_law_1446 rfl (fun c7 => ?_) (fun c7 => absurd (by decide) c7)
  exact law_end X hr hX hbl ⟨Nat.le_of_ble_eq_true rfl, Nat.le_of_ble_eq_true rfl⟩ (hW.pick [] rfl rfl) (lv_sub hl [0, 4] rfl)

set_option maxHeartbeats 4000000 in
set_option maxRecDepth 100000 in
theorem law_28 {p : Program} {e : Env} {s : State} {m : MethodId} {below : List Frame} {meth : Method} {c : Code} {l : Launch} {b : Nat} {xs : Nat → Int32} {g : GG} {H : Heap} {locs : List Loc} {ls : Array Slot} {a0 a1 a10 a2 a3 a4 a5 a6 a7 a8 a9 b1 b10 b11 b12 b13 b14 b15 b16 b17 b21 b22 b23 b24 b25 b26 b28 b29 b30 b31 b32 b33 b34 b35 b36 b46 b47 b48 b49 b50 b51 b52 b53 b54 b55 b56 b57 b58 b59 b6 b60 b61 b62 b63 b7 b8 b9 m0 o0 x0 : Nat} (X : CTX p l m meth c cL_law 7 s #[Value.ref b] RL g (AL s)) (hr : meth.sig.returnType = ret) (hX : va_X b 6 xs s s.heap) (hbl : b < s.heap.size) (hW : WD g (AL s) s H locs [(x0, .inr (11, [.ref a0, .ref a1, .ref a2, .ref a3, .ref a4, .ref a5, .ref a6, .ref a7, .ref a8, .ref a9, .ref a10, .int 0, .int 0, .int 0])), (m0, .inr (12, [.int 0, .ref b1, .int 0, .int 0, .int 0, .int 0, .ref b6, .ref b7, .ref b8, .ref b9, .ref b10, .ref b11, .ref b12, .ref b13, .ref b14, .ref b15, .ref b16, .ref b17, .int 0, .int (-1), .int (-1), .ref b21, .ref b22, .ref b23, .ref b24, .ref b25, .ref b26, .int 0, .ref b28, .ref b29, .ref b30, .ref b31, .ref b32, .ref b33, .ref b34, .ref b35, .ref b36, .int 0, .int 0, .int 0, .int 0, .int 0, .int 0, .int 0, .int 0, .int 0, .ref b46, .ref b47, .ref b48, .ref b49, .ref b50, .ref b51, .ref b52, .ref b53, .ref b54, .ref b55, .ref b56, .ref b57, .ref b58, .ref b59, .ref b60, .ref b61, .ref b62, .ref b63]))]) (hl : lv_has ls 7 [(0, .ref b), (1, .ref x0), (2, .ref m0), (3, .ref o0), (4, .int 0)]) : W p l e room_1 s m #[Value.ref b] below meth c H locs 97 615458 (lw_Z below #[Value.ref b] s) (F0 m 1451 ls []) := by
  have hx := X.1
  have hb := X.2.1
  have hbA : ¬ (AL s) b := Nat.not_le.mpr hbl
  refine lv_aload_n (pc := 1451) hx hb dL_law_1451 rfl (lv_at hl 1 rfl) ?_
  refine lv_aload_n (pc := 1452) hx hb dL_law_1452 rfl (lv_at hl 0 rfl) ?_
  refine lv_iload (pc := 1453) hx hb dL_law_1453 (lv_at hl 4 rfl) ?_
  refine lv_iconst (v := 1) (pc := 1455) hx hb dL_law_1455 (by decide) ?_
  refine lv_iadd (pc := 1456) hx hb dL_law_1456 ?_
  refine lv_topi (fun v1 ev1 => ?_)
  obtain rfl : v1 = 1 := ev1.trans (by decide +kernel)
  refine va_sld (pc := 1457) hx hb hX hbl hbA hW.2.2 (vp_in_nI (n := 1) (by decide) (by decide)) dL_law_1457 ?_
  refine lv_aload_n (pc := 1458) hx hb dL_law_1458 rfl (lv_at hl 0 rfl) ?_
  refine lv_iload (pc := 1459) hx hb dL_law_1459 (lv_at hl 4 rfl) ?_
  refine lv_iconst (v := 2) (pc := 1461) hx hb dL_law_1461 (by decide) ?_
  refine lv_iadd (pc := 1462) hx hb dL_law_1462 ?_
  refine lv_topi (fun v2 ev2 => ?_)
  obtain rfl : v2 = 2 := ev2.trans (by decide +kernel)
  refine va_sld (pc := 1463) hx hb hX hbl hbA hW.2.2 (vp_in_nI (n := 2) (by decide) (by decide)) dL_law_1463 ?_
  refine lv_aload_n (pc := 1464) hx hb dL_law_1464 rfl (lv_at hl 0 rfl) ?_
  refine lv_iload (pc := 1465) hx hb dL_law_1465 (lv_at hl 4 rfl) ?_
  refine lv_iconst (v := 3) (pc := 1467) hx hb dL_law_1467 (by decide) ?_
  refine lv_iadd (pc := 1468) hx hb dL_law_1468 ?_
  refine lv_topi (fun v3 ev3 => ?_)
  obtain rfl : v3 = 3 := ev3.trans (by decide +kernel)
  refine va_sld (pc := 1469) hx hb hX hbl hbA hW.2.2 (vp_in_nI (n := 3) (by decide) (by decide)) dL_law_1469 ?_
  refine lv_aload_n (pc := 1470) hx hb dL_law_1470 rfl (lv_at hl 0 rfl) ?_
  refine lv_iload (pc := 1471) hx hb dL_law_1471 (lv_at hl 4 rfl) ?_
  refine lv_iconst (v := 4) (pc := 1473) hx hb dL_law_1473 (by decide) ?_
  refine lv_iadd (pc := 1474) hx hb dL_law_1474 ?_
  refine lv_topi (fun v4 ev4 => ?_)
  obtain rfl : v4 = 4 := ev4.trans (by decide +kernel)
  refine va_sld (pc := 1475) hx hb hX hbl hbA hW.2.2 (vp_in_nI (n := 4) (by decide) (by decide)) dL_law_1475 ?_
  refine c_Vi (pc := 1476) (As := [.int (xs (1 : Int32).toNatClampNeg), .int (xs (2 : Int32).toNatClampNeg), .int (xs (3 : Int32).toNatClampNeg), .int (xs (4 : Int32).toNatClampNeg)]) (rest := []) (wr := [(m0, .inr (12, [.int 0, .ref b1, .int 0, .int 0, .int 0, .int 0, .ref b6, .ref b7, .ref b8, .ref b9, .ref b10, .ref b11, .ref b12, .ref b13, .ref b14, .ref b15, .ref b16, .ref b17, .int 0, .int (-1), .int (-1), .ref b21, .ref b22, .ref b23, .ref b24, .ref b25, .ref b26, .int 0, .ref b28, .ref b29, .ref b30, .ref b31, .ref b32, .ref b33, .ref b34, .ref b35, .ref b36, .int 0, .int 0, .int 0, .int 0, .int 0, .int 0, .int 0, .int 0, .int 0, .ref b46, .ref b47, .ref b48, .ref b49, .ref b50, .ref b51, .ref b52, .ref b53, .ref b54, .ref b55, .ref b56, .ref b57, .ref b58, .ref b59, .ref b60, .ref b61, .ref b62, .ref b63]))]) X hW 0 ciX11 rfl (C_X11_tree l g x0 a0 a1 a2 a3 a4 a5 a6 a7 a8 a9 a10 (xs (1 : Int32).toNatClampNeg) (xs (2 : Int32).toNatClampNeg) (xs (3 : Int32).toNatClampNeg) (xs (4 : Int32).toNatClampNeg)) vL_143 [0] [1] rfl rfl rfl rfl rfl rfl hl.1 rfl (Nat.le_of_ble_eq_true rfl) ⟨Nat.le_of_ble_eq_true rfl, Nat.le_of_ble_eq_true rfl⟩ ⟨Nat.le_of_ble_eq_true rfl, Nat.le_of_ble_eq_true rfl⟩ dL_law_1476 (fun r5 u9 H locs hq hW => ?_)
  obtain ⟨rfl, rfl⟩ := hq
  have hW : WD g (AL s) s _ _ [(m0, .inr (12, [.int 0, .ref b1, .int 0, .int 0, .int 0, .int 0, .ref b6, .ref b7, .ref b8, .ref b9, .ref b10, .ref b11, .ref b12, .ref b13, .ref b14, .ref b15, .ref b16, .ref b17, .int 0, .int (-1), .int (-1), .ref b21, .ref b22, .ref b23, .ref b24, .ref b25, .ref b26, .int 0, .ref b28, .ref b29, .ref b30, .ref b31, .ref b32, .ref b33, .ref b34, .ref b35, .ref b36, .int 0, .int 0, .int 0, .int 0, .int 0, .int 0, .int 0, .int 0, .int 0, .ref b46, .ref b47, .ref b48, .ref b49, .ref b50, .ref b51, .ref b52, .ref b53, .ref b54, .ref b55, .ref b56, .ref b57, .ref b58, .ref b59, .ref b60, .ref b61, .ref b62, .ref b63])), (x0, .inr (11, [.ref a0, .ref a1, .ref a2, .ref a3, .ref a4, .ref a5, .ref a6, .ref a7, .ref a8, .ref a9, .ref a10, .int 0, .int 0, .int 0]))] := hW
  refine lv_aload_n (pc := 1479) hx hb dL_law_1479 rfl (lv_at hl 2 rfl) ?_
  refine lv_aload_n (pc := 1480) hx hb dL_law_1480 rfl (lv_at hl 0 rfl) ?_
  refine lv_iload (pc := 1481) hx hb dL_law_1481 (lv_at hl 4 rfl) ?_
  refine lv_iconst (v := 1) (pc := 1483) hx hb dL_law_1483 (by decide) ?_
  refine lv_iadd (pc := 1484) hx hb dL_law_1484 ?_
  refine lv_topi (fun v6 ev6 => ?_)
  obtain rfl : v6 = 1 := ev6.trans (by decide +kernel)
  refine va_sld (pc := 1485) hx hb hX hbl hbA hW.2.2 (vp_in_nI (n := 1) (by decide) (by decide)) dL_law_1485 ?_
  refine lv_aload_n (pc := 1486) hx hb dL_law_1486 rfl (lv_at hl 0 rfl) ?_
  refine lv_iload (pc := 1487) hx hb dL_law_1487 (lv_at hl 4 rfl) ?_
  refine lv_iconst (v := 2) (pc := 1489) hx hb dL_law_1489 (by decide) ?_
  refine lv_iadd (pc := 1490) hx hb dL_law_1490 ?_
  refine lv_topi (fun v7 ev7 => ?_)
  obtain rfl : v7 = 2 := ev7.trans (by decide +kernel)
  refine va_sld (pc := 1491) hx hb hX hbl hbA hW.2.2 (vp_in_nI (n := 2) (by decide) (by decide)) dL_law_1491 ?_
  refine lv_aload_n (pc := 1492) hx hb dL_law_1492 rfl (lv_at hl 0 rfl) ?_
  refine lv_iload (pc := 1493) hx hb dL_law_1493 (lv_at hl 4 rfl) ?_
  refine lv_iconst (v := 3) (pc := 1495) hx hb dL_law_1495 (by decide) ?_
  refine lv_iadd (pc := 1496) hx hb dL_law_1496 ?_
  refine lv_topi (fun v8 ev8 => ?_)
  obtain rfl : v8 = 3 := ev8.trans (by decide +kernel)
  refine va_sld (pc := 1497) hx hb hX hbl hbA hW.2.2 (vp_in_nI (n := 3) (by decide) (by decide)) dL_law_1497 ?_
  refine lv_aload_n (pc := 1498) hx hb dL_law_1498 rfl (lv_at hl 0 rfl) ?_
  refine lv_iload (pc := 1499) hx hb dL_law_1499 (lv_at hl 4 rfl) ?_
  refine lv_iconst (v := 4) (pc := 1501) hx hb dL_law_1501 (by decide) ?_
  refine lv_iadd (pc := 1502) hx hb dL_law_1502 ?_
  refine lv_topi (fun v9 ev9 => ?_)
  obtain rfl : v9 = 4 := ev9.trans (by decide +kernel)
  refine va_sld (pc := 1503) hx hb hX hbl hbA hW.2.2 (vp_in_nI (n := 4) (by decide) (by decide)) dL_law_1503 ?_
  refine c_Vi (pc := 1504) (As := [.int (xs (1 : Int32).toNatClampNeg), .int (xs (2 : Int32).toNatClampNeg), .int (xs (3 : Int32).toNatClampNeg), .int (xs (4 : Int32).toNatClampNeg)]) (rest := [.int (-1)]) (wr := [(x0, .inr (11, [.ref a0, .ref a1, .ref a2, .ref a3, .ref a4, .ref a5, .ref a6, .ref a7, .ref a8, .ref a9, .ref a10, .int 0, .int 0, .int 0]))]) X hW 0 ciX12 rfl (C_X12_tree l g m0 b1 b6 b7 b8 b9 b10 b11 b12 b13 b14 b15 b16 b17 b21 b22 b23 b24 b25 b26 b28 b29 b30 b31 b32 b33 b34 b35 b36 b46 b47 b48 b49 b50 b51 b52 b53 b54 b55 b56 b57 b58 b59 b60 b61 b62 b63 (xs (1 : Int32).toNatClampNeg) (xs (2 : Int32).toNatClampNeg) (xs (3 : Int32).toNatClampNeg) (xs (4 : Int32).toNatClampNeg)) vL_146 [0] [1] rfl rfl rfl rfl rfl rfl hl.1 rfl (Nat.le_of_ble_eq_true rfl) ⟨Nat.le_of_ble_eq_true rfl, Nat.le_of_ble_eq_true rfl⟩ ⟨Nat.le_of_ble_eq_true rfl, Nat.le_of_ble_eq_true rfl⟩ dL_law_1504 (fun r10 u9 H locs hq hW => ?_)
  obtain ⟨rfl, rfl⟩ := hq
  have hW : WD g (AL s) s _ _ [(x0, .inr (11, [.ref a0, .ref a1, .ref a2, .ref a3, .ref a4, .ref a5, .ref a6, .ref a7, .ref a8, .ref a9, .ref a10, .int 0, .int 0, .int 0])), (m0, .inr (12, [.int 0, .ref b1, .int 0, .int 0, .int 0, .int 0, .ref b6, .ref b7, .ref b8, .ref b9, .ref b10, .ref b11, .ref b12, .ref b13, .ref b14, .ref b15, .ref b16, .ref b17, .int 0, .int (-1), .int (-1), .ref b21, .ref b22, .ref b23, .ref b24, .ref b25, .ref b26, .int 0, .ref b28, .ref b29, .ref b30, .ref b31, .ref b32, .ref b33, .ref b34, .ref b35, .ref b36, .int 0, .int 0, .int 0, .int 0, .int 0, .int 0, .int 0, .int 0, .int 0, .ref b46, .ref b47, .ref b48, .ref b49, .ref b50, .ref b51, .ref b52, .ref b53, .ref b54, .ref b55, .ref b56, .ref b57, .ref b58, .ref b59, .ref b60, .ref b61, .ref b62, .ref b63]))] := hW
  refine lv_icmp_eq (tgt := 1865) (pc := 1507) hx hb dL_law_1507 rfl (fun c11 => ?_) (fun c11 => absurd (by decide) c11)
  exact law_end X hr hX hbl ⟨Nat.le_of_ble_eq_true rfl, Nat.le_of_ble_eq_true rfl⟩ (hW.pick [] rfl rfl) (lv_sub hl [0, 4] rfl)

set_option maxHeartbeats 4000000 in
set_option maxRecDepth 100000 in
theorem law_29 {p : Program} {e : Env} {s : State} {m : MethodId} {below : List Frame} {meth : Method} {c : Code} {l : Launch} {b : Nat} {xs : Nat → Int32} {g : GG} {H : Heap} {locs : List Loc} {ls : Array Slot} {a0 a1 a10 a2 a3 a4 a5 a6 a7 a8 a9 b1 b10 b11 b12 b13 b14 b15 b16 b17 b21 b22 b23 b24 b25 b26 b28 b29 b30 b31 b32 b33 b34 b35 b36 b46 b47 b48 b49 b50 b51 b52 b53 b54 b55 b56 b57 b58 b59 b6 b60 b61 b62 b63 b7 b8 b9 m0 o0 x0 : Nat} (X : CTX p l m meth c cL_law 7 s #[Value.ref b] RL g (AL s)) (hr : meth.sig.returnType = ret) (hX : va_X b 6 xs s s.heap) (hbl : b < s.heap.size) (hW : WD g (AL s) s H locs [(x0, .inr (11, [.ref a0, .ref a1, .ref a2, .ref a3, .ref a4, .ref a5, .ref a6, .ref a7, .ref a8, .ref a9, .ref a10, .int 0, .int 0, .int 0])), (m0, .inr (12, [.int 0, .ref b1, .int 0, .int 0, .int 0, .int 0, .ref b6, .ref b7, .ref b8, .ref b9, .ref b10, .ref b11, .ref b12, .ref b13, .ref b14, .ref b15, .ref b16, .ref b17, .int 0, .int (-1), .int (-1), .ref b21, .ref b22, .ref b23, .ref b24, .ref b25, .ref b26, .int 0, .ref b28, .ref b29, .ref b30, .ref b31, .ref b32, .ref b33, .ref b34, .ref b35, .ref b36, .int 0, .int 0, .int 0, .int 0, .int 0, .int 0, .int 0, .int 0, .int 0, .ref b46, .ref b47, .ref b48, .ref b49, .ref b50, .ref b51, .ref b52, .ref b53, .ref b54, .ref b55, .ref b56, .ref b57, .ref b58, .ref b59, .ref b60, .ref b61, .ref b62, .ref b63]))]) (hl : lv_has ls 7 [(0, .ref b), (1, .ref x0), (2, .ref m0), (3, .ref o0), (4, .int 0)]) : W p l e room_1 s m #[Value.ref b] below meth c H locs 97 615458 (lw_Z below #[Value.ref b] s) (F0 m 1512 ls []) := by
  have hx := X.1
  have hb := X.2.1
  have hbA : ¬ (AL s) b := Nat.not_le.mpr hbl
  refine lv_aload_n (pc := 1512) hx hb dL_law_1512 rfl (lv_at hl 1 rfl) ?_
  refine lv_aload_n (pc := 1513) hx hb dL_law_1513 rfl (lv_at hl 0 rfl) ?_
  refine lv_iload (pc := 1514) hx hb dL_law_1514 (lv_at hl 4 rfl) ?_
  refine lv_iconst (v := 1) (pc := 1516) hx hb dL_law_1516 (by decide) ?_
  refine lv_iadd (pc := 1517) hx hb dL_law_1517 ?_
  refine lv_topi (fun v1 ev1 => ?_)
  obtain rfl : v1 = 1 := ev1.trans (by decide +kernel)
  refine va_sld (pc := 1518) hx hb hX hbl hbA hW.2.2 (vp_in_nI (n := 1) (by decide) (by decide)) dL_law_1518 ?_
  refine lv_aload_n (pc := 1519) hx hb dL_law_1519 rfl (lv_at hl 0 rfl) ?_
  refine lv_iload (pc := 1520) hx hb dL_law_1520 (lv_at hl 4 rfl) ?_
  refine lv_iconst (v := 2) (pc := 1522) hx hb dL_law_1522 (by decide) ?_
  refine lv_iadd (pc := 1523) hx hb dL_law_1523 ?_
  refine lv_topi (fun v2 ev2 => ?_)
  obtain rfl : v2 = 2 := ev2.trans (by decide +kernel)
  refine va_sld (pc := 1524) hx hb hX hbl hbA hW.2.2 (vp_in_nI (n := 2) (by decide) (by decide)) dL_law_1524 ?_
  refine c_Vi (pc := 1525) (As := [.int (xs (1 : Int32).toNatClampNeg), .int (xs (2 : Int32).toNatClampNeg)]) (rest := []) (wr := [(m0, .inr (12, [.int 0, .ref b1, .int 0, .int 0, .int 0, .int 0, .ref b6, .ref b7, .ref b8, .ref b9, .ref b10, .ref b11, .ref b12, .ref b13, .ref b14, .ref b15, .ref b16, .ref b17, .int 0, .int (-1), .int (-1), .ref b21, .ref b22, .ref b23, .ref b24, .ref b25, .ref b26, .int 0, .ref b28, .ref b29, .ref b30, .ref b31, .ref b32, .ref b33, .ref b34, .ref b35, .ref b36, .int 0, .int 0, .int 0, .int 0, .int 0, .int 0, .int 0, .int 0, .int 0, .ref b46, .ref b47, .ref b48, .ref b49, .ref b50, .ref b51, .ref b52, .ref b53, .ref b54, .ref b55, .ref b56, .ref b57, .ref b58, .ref b59, .ref b60, .ref b61, .ref b62, .ref b63]))]) X hW 0 ciX11 rfl (C_X11_breaks l g x0 a0 a1 a2 a3 a4 a5 a6 a7 a8 a9 a10 (xs (1 : Int32).toNatClampNeg) (xs (2 : Int32).toNatClampNeg)) vL_147 [0] [1] rfl rfl rfl rfl rfl rfl hl.1 rfl (Nat.le_of_ble_eq_true rfl) ⟨Nat.le_of_ble_eq_true rfl, Nat.le_of_ble_eq_true rfl⟩ ⟨Nat.le_of_ble_eq_true rfl, Nat.le_of_ble_eq_true rfl⟩ dL_law_1525 (fun r3 u9 H locs hq hW => ?_)
  obtain ⟨rfl, rfl⟩ := hq
  have hW : WD g (AL s) s _ _ [(m0, .inr (12, [.int 0, .ref b1, .int 0, .int 0, .int 0, .int 0, .ref b6, .ref b7, .ref b8, .ref b9, .ref b10, .ref b11, .ref b12, .ref b13, .ref b14, .ref b15, .ref b16, .ref b17, .int 0, .int (-1), .int (-1), .ref b21, .ref b22, .ref b23, .ref b24, .ref b25, .ref b26, .int 0, .ref b28, .ref b29, .ref b30, .ref b31, .ref b32, .ref b33, .ref b34, .ref b35, .ref b36, .int 0, .int 0, .int 0, .int 0, .int 0, .int 0, .int 0, .int 0, .int 0, .ref b46, .ref b47, .ref b48, .ref b49, .ref b50, .ref b51, .ref b52, .ref b53, .ref b54, .ref b55, .ref b56, .ref b57, .ref b58, .ref b59, .ref b60, .ref b61, .ref b62, .ref b63])), (x0, .inr (11, [.ref a0, .ref a1, .ref a2, .ref a3, .ref a4, .ref a5, .ref a6, .ref a7, .ref a8, .ref a9, .ref a10, .int 0, .int 0, .int 0]))] := hW
  refine lv_aload_n (pc := 1528) hx hb dL_law_1528 rfl (lv_at hl 2 rfl) ?_
  refine lv_aload_n (pc := 1529) hx hb dL_law_1529 rfl (lv_at hl 0 rfl) ?_
  refine lv_iload (pc := 1530) hx hb dL_law_1530 (lv_at hl 4 rfl) ?_
  refine lv_iconst (v := 1) (pc := 1532) hx hb dL_law_1532 (by decide) ?_
  refine lv_iadd (pc := 1533) hx hb dL_law_1533 ?_
  refine lv_topi (fun v4 ev4 => ?_)
  obtain rfl : v4 = 1 := ev4.trans (by decide +kernel)
  refine va_sld (pc := 1534) hx hb hX hbl hbA hW.2.2 (vp_in_nI (n := 1) (by decide) (by decide)) dL_law_1534 ?_
  refine lv_aload_n (pc := 1535) hx hb dL_law_1535 rfl (lv_at hl 0 rfl) ?_
  refine lv_iload (pc := 1536) hx hb dL_law_1536 (lv_at hl 4 rfl) ?_
  refine lv_iconst (v := 2) (pc := 1538) hx hb dL_law_1538 (by decide) ?_
  refine lv_iadd (pc := 1539) hx hb dL_law_1539 ?_
  refine lv_topi (fun v5 ev5 => ?_)
  obtain rfl : v5 = 2 := ev5.trans (by decide +kernel)
  refine va_sld (pc := 1540) hx hb hX hbl hbA hW.2.2 (vp_in_nI (n := 2) (by decide) (by decide)) dL_law_1540 ?_
  refine c_Vi (pc := 1541) (As := [.int (xs (1 : Int32).toNatClampNeg), .int (xs (2 : Int32).toNatClampNeg)]) (rest := [.int (-1)]) (wr := [(x0, .inr (11, [.ref a0, .ref a1, .ref a2, .ref a3, .ref a4, .ref a5, .ref a6, .ref a7, .ref a8, .ref a9, .ref a10, .int 0, .int 0, .int 0]))]) X hW 0 ciX12 rfl (C_X12_breaks l g m0 b1 b6 b7 b8 b9 b10 b11 b12 b13 b14 b15 b16 b17 b21 b22 b23 b24 b25 b26 b28 b29 b30 b31 b32 b33 b34 b35 b36 b46 b47 b48 b49 b50 b51 b52 b53 b54 b55 b56 b57 b58 b59 b60 b61 b62 b63 (xs (1 : Int32).toNatClampNeg) (xs (2 : Int32).toNatClampNeg)) vL_150 [0] [1] rfl rfl rfl rfl rfl rfl hl.1 rfl (Nat.le_of_ble_eq_true rfl) ⟨Nat.le_of_ble_eq_true rfl, Nat.le_of_ble_eq_true rfl⟩ ⟨Nat.le_of_ble_eq_true rfl, Nat.le_of_ble_eq_true rfl⟩ dL_law_1541 (fun r6 u9 H locs hq hW => ?_)
  obtain ⟨rfl, rfl⟩ := hq
  have hW : WD g (AL s) s _ _ [(x0, .inr (11, [.ref a0, .ref a1, .ref a2, .ref a3, .ref a4, .ref a5, .ref a6, .ref a7, .ref a8, .ref a9, .ref a10, .int 0, .int 0, .int 0])), (m0, .inr (12, [.int 0, .ref b1, .int 0, .int 0, .int 0, .int 0, .ref b6, .ref b7, .ref b8, .ref b9, .ref b10, .ref b11, .ref b12, .ref b13, .ref b14, .ref b15, .ref b16, .ref b17, .int 0, .int (-1), .int (-1), .ref b21, .ref b22, .ref b23, .ref b24, .ref b25, .ref b26, .int 0, .ref b28, .ref b29, .ref b30, .ref b31, .ref b32, .ref b33, .ref b34, .ref b35, .ref b36, .int 0, .int 0, .int 0, .int 0, .int 0, .int 0, .int 0, .int 0, .int 0, .ref b46, .ref b47, .ref b48, .ref b49, .ref b50, .ref b51, .ref b52, .ref b53, .ref b54, .ref b55, .ref b56, .ref b57, .ref b58, .ref b59, .ref b60, .ref b61, .ref b62, .ref b63]))] := hW
  refine lv_icmp_eq (tgt := 1865) (pc := 1544) hx hb dL_law_1544 rfl (fun c7 => ?_) (fun c7 => absurd (by decide) c7)
  exact law_end X hr hX hbl ⟨Nat.le_of_ble_eq_true rfl, Nat.le_of_ble_eq_true rfl⟩ (hW.pick [] rfl rfl) (lv_sub hl [0, 4] rfl)

set_option maxHeartbeats 4000000 in
set_option maxRecDepth 100000 in
theorem law_30 {p : Program} {e : Env} {s : State} {m : MethodId} {below : List Frame} {meth : Method} {c : Code} {l : Launch} {b : Nat} {xs : Nat → Int32} {g : GG} {H : Heap} {locs : List Loc} {ls : Array Slot} {a0 a1 a10 a2 a3 a4 a5 a6 a7 a8 a9 b1 b10 b11 b12 b13 b14 b15 b16 b17 b21 b22 b23 b24 b25 b26 b28 b29 b30 b31 b32 b33 b34 b35 b36 b46 b47 b48 b49 b50 b51 b52 b53 b54 b55 b56 b57 b58 b59 b6 b60 b61 b62 b63 b7 b8 b9 m0 o0 x0 : Nat} (X : CTX p l m meth c cL_law 7 s #[Value.ref b] RL g (AL s)) (hr : meth.sig.returnType = ret) (hX : va_X b 6 xs s s.heap) (hbl : b < s.heap.size) (hW : WD g (AL s) s H locs [(x0, .inr (11, [.ref a0, .ref a1, .ref a2, .ref a3, .ref a4, .ref a5, .ref a6, .ref a7, .ref a8, .ref a9, .ref a10, .int 0, .int 0, .int 0])), (m0, .inr (12, [.int 0, .ref b1, .int 0, .int 0, .int 0, .int 0, .ref b6, .ref b7, .ref b8, .ref b9, .ref b10, .ref b11, .ref b12, .ref b13, .ref b14, .ref b15, .ref b16, .ref b17, .int 0, .int (-1), .int (-1), .ref b21, .ref b22, .ref b23, .ref b24, .ref b25, .ref b26, .int 0, .ref b28, .ref b29, .ref b30, .ref b31, .ref b32, .ref b33, .ref b34, .ref b35, .ref b36, .int 0, .int 0, .int 0, .int 0, .int 0, .int 0, .int 0, .int 0, .int 0, .ref b46, .ref b47, .ref b48, .ref b49, .ref b50, .ref b51, .ref b52, .ref b53, .ref b54, .ref b55, .ref b56, .ref b57, .ref b58, .ref b59, .ref b60, .ref b61, .ref b62, .ref b63]))]) (hl : lv_has ls 7 [(0, .ref b), (1, .ref x0), (2, .ref m0), (3, .ref o0), (4, .int 0)]) : W p l e room_1 s m #[Value.ref b] below meth c H locs 97 615458 (lw_Z below #[Value.ref b] s) (F0 m 1549 ls []) := by
  have hx := X.1
  have hb := X.2.1
  have hbA : ¬ (AL s) b := Nat.not_le.mpr hbl
  refine lv_aload_n (pc := 1549) hx hb dL_law_1549 rfl (lv_at hl 1 rfl) ?_
  refine lv_aload_n (pc := 1550) hx hb dL_law_1550 rfl (lv_at hl 0 rfl) ?_
  refine lv_iload (pc := 1551) hx hb dL_law_1551 (lv_at hl 4 rfl) ?_
  refine lv_iconst (v := 1) (pc := 1553) hx hb dL_law_1553 (by decide) ?_
  refine lv_iadd (pc := 1554) hx hb dL_law_1554 ?_
  refine lv_topi (fun v1 ev1 => ?_)
  obtain rfl : v1 = 1 := ev1.trans (by decide +kernel)
  refine va_sld (pc := 1555) hx hb hX hbl hbA hW.2.2 (vp_in_nI (n := 1) (by decide) (by decide)) dL_law_1555 ?_
  refine c_Vi (pc := 1556) (As := [.int (xs (1 : Int32).toNatClampNeg)]) (rest := []) (wr := [(m0, .inr (12, [.int 0, .ref b1, .int 0, .int 0, .int 0, .int 0, .ref b6, .ref b7, .ref b8, .ref b9, .ref b10, .ref b11, .ref b12, .ref b13, .ref b14, .ref b15, .ref b16, .ref b17, .int 0, .int (-1), .int (-1), .ref b21, .ref b22, .ref b23, .ref b24, .ref b25, .ref b26, .int 0, .ref b28, .ref b29, .ref b30, .ref b31, .ref b32, .ref b33, .ref b34, .ref b35, .ref b36, .int 0, .int 0, .int 0, .int 0, .int 0, .int 0, .int 0, .int 0, .int 0, .ref b46, .ref b47, .ref b48, .ref b49, .ref b50, .ref b51, .ref b52, .ref b53, .ref b54, .ref b55, .ref b56, .ref b57, .ref b58, .ref b59, .ref b60, .ref b61, .ref b62, .ref b63]))]) X hW 0 ciX11 rfl (C_X11_breaker l g x0 a0 a1 a2 a3 a4 a5 a6 a7 a8 a9 a10 (xs (1 : Int32).toNatClampNeg)) vL_151 [0] [1] rfl rfl rfl rfl rfl rfl hl.1 rfl (Nat.le_of_ble_eq_true rfl) ⟨Nat.le_of_ble_eq_true rfl, Nat.le_of_ble_eq_true rfl⟩ ⟨Nat.le_of_ble_eq_true rfl, Nat.le_of_ble_eq_true rfl⟩ dL_law_1556 (fun r2 u9 H locs hq hW => ?_)
  obtain ⟨rfl, rfl⟩ := hq
  have hW : WD g (AL s) s _ _ [(m0, .inr (12, [.int 0, .ref b1, .int 0, .int 0, .int 0, .int 0, .ref b6, .ref b7, .ref b8, .ref b9, .ref b10, .ref b11, .ref b12, .ref b13, .ref b14, .ref b15, .ref b16, .ref b17, .int 0, .int (-1), .int (-1), .ref b21, .ref b22, .ref b23, .ref b24, .ref b25, .ref b26, .int 0, .ref b28, .ref b29, .ref b30, .ref b31, .ref b32, .ref b33, .ref b34, .ref b35, .ref b36, .int 0, .int 0, .int 0, .int 0, .int 0, .int 0, .int 0, .int 0, .int 0, .ref b46, .ref b47, .ref b48, .ref b49, .ref b50, .ref b51, .ref b52, .ref b53, .ref b54, .ref b55, .ref b56, .ref b57, .ref b58, .ref b59, .ref b60, .ref b61, .ref b62, .ref b63])), (x0, .inr (11, [.ref a0, .ref a1, .ref a2, .ref a3, .ref a4, .ref a5, .ref a6, .ref a7, .ref a8, .ref a9, .ref a10, .int 0, .int 0, .int 0]))] := hW
  refine lv_aload_n (pc := 1559) hx hb dL_law_1559 rfl (lv_at hl 2 rfl) ?_
  refine lv_aload_n (pc := 1560) hx hb dL_law_1560 rfl (lv_at hl 0 rfl) ?_
  refine lv_iload (pc := 1561) hx hb dL_law_1561 (lv_at hl 4 rfl) ?_
  refine lv_iconst (v := 1) (pc := 1563) hx hb dL_law_1563 (by decide) ?_
  refine lv_iadd (pc := 1564) hx hb dL_law_1564 ?_
  refine lv_topi (fun v3 ev3 => ?_)
  obtain rfl : v3 = 1 := ev3.trans (by decide +kernel)
  refine va_sld (pc := 1565) hx hb hX hbl hbA hW.2.2 (vp_in_nI (n := 1) (by decide) (by decide)) dL_law_1565 ?_
  refine c_Vi (pc := 1566) (As := [.int (xs (1 : Int32).toNatClampNeg)]) (rest := [.int (-1)]) (wr := [(x0, .inr (11, [.ref a0, .ref a1, .ref a2, .ref a3, .ref a4, .ref a5, .ref a6, .ref a7, .ref a8, .ref a9, .ref a10, .int 0, .int 0, .int 0]))]) X hW 0 ciX12 rfl (C_X12_breaker l g m0 b1 b6 b7 b8 b9 b10 b11 b12 b13 b14 b15 b16 b17 b21 b22 b23 b24 b25 b26 b28 b29 b30 b31 b32 b33 b34 b35 b36 b46 b47 b48 b49 b50 b51 b52 b53 b54 b55 b56 b57 b58 b59 b60 b61 b62 b63 (xs (1 : Int32).toNatClampNeg)) vL_154 [0] [1] rfl rfl rfl rfl rfl rfl hl.1 rfl (Nat.le_of_ble_eq_true rfl) ⟨Nat.le_of_ble_eq_true rfl, Nat.le_of_ble_eq_true rfl⟩ ⟨Nat.le_of_ble_eq_true rfl, Nat.le_of_ble_eq_true rfl⟩ dL_law_1566 (fun r4 u9 H locs hq hW => ?_)
  obtain ⟨rfl, rfl⟩ := hq
  have hW : WD g (AL s) s _ _ [(x0, .inr (11, [.ref a0, .ref a1, .ref a2, .ref a3, .ref a4, .ref a5, .ref a6, .ref a7, .ref a8, .ref a9, .ref a10, .int 0, .int 0, .int 0])), (m0, .inr (12, [.int 0, .ref b1, .int 0, .int 0, .int 0, .int 0, .ref b6, .ref b7, .ref b8, .ref b9, .ref b10, .ref b11, .ref b12, .ref b13, .ref b14, .ref b15, .ref b16, .ref b17, .int 0, .int (-1), .int (-1), .ref b21, .ref b22, .ref b23, .ref b24, .ref b25, .ref b26, .int 0, .ref b28, .ref b29, .ref b30, .ref b31, .ref b32, .ref b33, .ref b34, .ref b35, .ref b36, .int 0, .int 0, .int 0, .int 0, .int 0, .int 0, .int 0, .int 0, .int 0, .ref b46, .ref b47, .ref b48, .ref b49, .ref b50, .ref b51, .ref b52, .ref b53, .ref b54, .ref b55, .ref b56, .ref b57, .ref b58, .ref b59, .ref b60, .ref b61, .ref b62, .ref b63]))] := hW
  refine lv_icmp_eq (tgt := 1865) (pc := 1569) hx hb dL_law_1569 rfl (fun c5 => ?_) (fun c5 => absurd (by decide) c5)
  exact law_end X hr hX hbl ⟨Nat.le_of_ble_eq_true rfl, Nat.le_of_ble_eq_true rfl⟩ (hW.pick [] rfl rfl) (lv_sub hl [0, 4] rfl)

set_option maxHeartbeats 4000000 in
set_option maxRecDepth 100000 in
theorem law_31 {p : Program} {e : Env} {s : State} {m : MethodId} {below : List Frame} {meth : Method} {c : Code} {l : Launch} {b : Nat} {xs : Nat → Int32} {g : GG} {H : Heap} {locs : List Loc} {ls : Array Slot} {a0 a1 a10 a2 a3 a4 a5 a6 a7 a8 a9 b1 b10 b11 b12 b13 b14 b15 b16 b17 b21 b22 b23 b24 b25 b26 b28 b29 b30 b31 b32 b33 b34 b35 b36 b46 b47 b48 b49 b50 b51 b52 b53 b54 b55 b56 b57 b58 b59 b6 b60 b61 b62 b63 b7 b8 b9 c0 c1 m0 o0 x0 : Nat} (X : CTX p l m meth c cL_law 7 s #[Value.ref b] RL g (AL s)) (hr : meth.sig.returnType = ret) (hX : va_X b 6 xs s s.heap) (hbl : b < s.heap.size) (hW : WD g (AL s) s H locs [(x0, .inr (11, [.ref a0, .ref a1, .ref a2, .ref a3, .ref a4, .ref a5, .ref a6, .ref a7, .ref a8, .ref a9, .ref a10, .int 0, .int 0, .int 0])), (a9, .inr (2, [.ref c0, .ref c1])), (c0, .inl (g.2.1 2, 5, .inr (.inl (fun _ => 0)))), (c1, .inl (g.2.1 2, 5, .inr (.inl (fun _ => 0)))), (m0, .inr (12, [.int 0, .ref b1, .int 0, .int 0, .int 0, .int 0, .ref b6, .ref b7, .ref b8, .ref b9, .ref b10, .ref b11, .ref b12, .ref b13, .ref b14, .ref b15, .ref b16, .ref b17, .int 0, .int (-1), .int (-1), .ref b21, .ref b22, .ref b23, .ref b24, .ref b25, .ref b26, .int 0, .ref b28, .ref b29, .ref b30, .ref b31, .ref b32, .ref b33, .ref b34, .ref b35, .ref b36, .int 0, .int 0, .int 0, .int 0, .int 0, .int 0, .int 0, .int 0, .int 0, .ref b46, .ref b47, .ref b48, .ref b49, .ref b50, .ref b51, .ref b52, .ref b53, .ref b54, .ref b55, .ref b56, .ref b57, .ref b58, .ref b59, .ref b60, .ref b61, .ref b62, .ref b63])), (b59, .inl (g.2.1 2, 16, .inr (.inl (fun _ => 0)))), (b60, .inl (g.2.1 2, 16, .inr (.inl (fun _ => 0))))]) (hl : lv_has ls 7 [(0, .ref b), (1, .ref x0), (2, .ref m0), (3, .ref o0), (4, .int 0)]) : W p l e room_1 s m #[Value.ref b] below meth c H locs 97 615458 (lw_Z below #[Value.ref b] s) (F0 m 1574 ls []) := by
  have hx := X.1
  have hb := X.2.1
  have hbA : ¬ (AL s) b := Nat.not_le.mpr hbl
  refine lv_aload_n (pc := 1574) hx hb dL_law_1574 rfl (lv_at hl 1 rfl) ?_
  refine lv_aload_n (pc := 1575) hx hb dL_law_1575 rfl (lv_at hl 0 rfl) ?_
  refine lv_iload (pc := 1576) hx hb dL_law_1576 (lv_at hl 4 rfl) ?_
  refine lv_iconst (v := 1) (pc := 1578) hx hb dL_law_1578 (by decide) ?_
  refine lv_iadd (pc := 1579) hx hb dL_law_1579 ?_
  refine lv_topi (fun v1 ev1 => ?_)
  obtain rfl : v1 = 1 := ev1.trans (by decide +kernel)
  refine va_sld (pc := 1580) hx hb hX hbl hbA hW.2.2 (vp_in_nI (n := 1) (by decide) (by decide)) dL_law_1580 ?_
  refine lv_aload_n (pc := 1581) hx hb dL_law_1581 rfl (lv_at hl 0 rfl) ?_
  refine lv_iload (pc := 1582) hx hb dL_law_1582 (lv_at hl 4 rfl) ?_
  refine lv_iconst (v := 2) (pc := 1584) hx hb dL_law_1584 (by decide) ?_
  refine lv_iadd (pc := 1585) hx hb dL_law_1585 ?_
  refine lv_topi (fun v2 ev2 => ?_)
  obtain rfl : v2 = 2 := ev2.trans (by decide +kernel)
  refine va_sld (pc := 1586) hx hb hX hbl hbA hW.2.2 (vp_in_nI (n := 2) (by decide) (by decide)) dL_law_1586 ?_
  refine lv_aload_n (pc := 1587) hx hb dL_law_1587 rfl (lv_at hl 0 rfl) ?_
  refine lv_iload (pc := 1588) hx hb dL_law_1588 (lv_at hl 4 rfl) ?_
  refine lv_iconst (v := 3) (pc := 1590) hx hb dL_law_1590 (by decide) ?_
  refine lv_iadd (pc := 1591) hx hb dL_law_1591 ?_
  refine lv_topi (fun v3 ev3 => ?_)
  obtain rfl : v3 = 3 := ev3.trans (by decide +kernel)
  refine va_sld (pc := 1592) hx hb hX hbl hbA hW.2.2 (vp_in_nI (n := 3) (by decide) (by decide)) dL_law_1592 ?_
  refine c_Vl (pc := 1593) (As := [.int (xs (1 : Int32).toNatClampNeg), .int (xs (2 : Int32).toNatClampNeg), .int (xs (3 : Int32).toNatClampNeg)]) (rest := []) (wr := [(m0, .inr (12, [.int 0, .ref b1, .int 0, .int 0, .int 0, .int 0, .ref b6, .ref b7, .ref b8, .ref b9, .ref b10, .ref b11, .ref b12, .ref b13, .ref b14, .ref b15, .ref b16, .ref b17, .int 0, .int (-1), .int (-1), .ref b21, .ref b22, .ref b23, .ref b24, .ref b25, .ref b26, .int 0, .ref b28, .ref b29, .ref b30, .ref b31, .ref b32, .ref b33, .ref b34, .ref b35, .ref b36, .int 0, .int 0, .int 0, .int 0, .int 0, .int 0, .int 0, .int 0, .int 0, .ref b46, .ref b47, .ref b48, .ref b49, .ref b50, .ref b51, .ref b52, .ref b53, .ref b54, .ref b55, .ref b56, .ref b57, .ref b58, .ref b59, .ref b60, .ref b61, .ref b62, .ref b63])), (b59, .inl (g.2.1 2, 16, .inr (.inl (fun _ => 0)))), (b60, .inl (g.2.1 2, 16, .inr (.inl (fun _ => 0))))]) X hW 0 ciX11 rfl (C_X11_ways l g x0 a0 a1 a2 a3 a4 a5 a6 a7 a8 a9 a10 c0 c1 (xs (1 : Int32).toNatClampNeg) (xs (2 : Int32).toNatClampNeg) (xs (3 : Int32).toNatClampNeg)) vL_155 [0, 1, 2, 3] [4, 5, 6] rfl rfl rfl rfl rfl rfl hl.1 rfl (Nat.le_of_ble_eq_true rfl) ⟨Nat.le_of_ble_eq_true rfl, Nat.le_of_ble_eq_true rfl⟩ ⟨Nat.le_of_ble_eq_true rfl, Nat.le_of_ble_eq_true rfl⟩ dL_law_1593 (fun r4 u9 H locs hq hW => ?_)
  obtain ⟨rfl, rfl⟩ := hq
  have hW : WD g (AL s) s _ _ [(m0, .inr (12, [.int 0, .ref b1, .int 0, .int 0, .int 0, .int 0, .ref b6, .ref b7, .ref b8, .ref b9, .ref b10, .ref b11, .ref b12, .ref b13, .ref b14, .ref b15, .ref b16, .ref b17, .int 0, .int (-1), .int (-1), .ref b21, .ref b22, .ref b23, .ref b24, .ref b25, .ref b26, .int 0, .ref b28, .ref b29, .ref b30, .ref b31, .ref b32, .ref b33, .ref b34, .ref b35, .ref b36, .int 0, .int 0, .int 0, .int 0, .int 0, .int 0, .int 0, .int 0, .int 0, .ref b46, .ref b47, .ref b48, .ref b49, .ref b50, .ref b51, .ref b52, .ref b53, .ref b54, .ref b55, .ref b56, .ref b57, .ref b58, .ref b59, .ref b60, .ref b61, .ref b62, .ref b63])), (b59, .inl (g.2.1 2, 16, .inr (.inl (fun _ => 0)))), (b60, .inl (g.2.1 2, 16, .inr (.inl (fun _ => 0))))] := hW
  refine lv_aload_n (pc := 1596) hx hb dL_law_1596 rfl (lv_at hl 2 rfl) ?_
  refine lv_aload_n (pc := 1597) hx hb dL_law_1597 rfl (lv_at hl 0 rfl) ?_
  refine lv_iload (pc := 1598) hx hb dL_law_1598 (lv_at hl 4 rfl) ?_
  refine lv_iconst (v := 1) (pc := 1600) hx hb dL_law_1600 (by decide) ?_
  refine lv_iadd (pc := 1601) hx hb dL_law_1601 ?_
  refine lv_topi (fun v5 ev5 => ?_)
  obtain rfl : v5 = 1 := ev5.trans (by decide +kernel)
  refine va_sld (pc := 1602) hx hb hX hbl hbA hW.2.2 (vp_in_nI (n := 1) (by decide) (by decide)) dL_law_1602 ?_
  refine lv_aload_n (pc := 1603) hx hb dL_law_1603 rfl (lv_at hl 0 rfl) ?_
  refine lv_iload (pc := 1604) hx hb dL_law_1604 (lv_at hl 4 rfl) ?_
  refine lv_iconst (v := 2) (pc := 1606) hx hb dL_law_1606 (by decide) ?_
  refine lv_iadd (pc := 1607) hx hb dL_law_1607 ?_
  refine lv_topi (fun v6 ev6 => ?_)
  obtain rfl : v6 = 2 := ev6.trans (by decide +kernel)
  refine va_sld (pc := 1608) hx hb hX hbl hbA hW.2.2 (vp_in_nI (n := 2) (by decide) (by decide)) dL_law_1608 ?_
  refine lv_aload_n (pc := 1609) hx hb dL_law_1609 rfl (lv_at hl 0 rfl) ?_
  refine lv_iload (pc := 1610) hx hb dL_law_1610 (lv_at hl 4 rfl) ?_
  refine lv_iconst (v := 3) (pc := 1612) hx hb dL_law_1612 (by decide) ?_
  refine lv_iadd (pc := 1613) hx hb dL_law_1613 ?_
  refine lv_topi (fun v7 ev7 => ?_)
  obtain rfl : v7 = 3 := ev7.trans (by decide +kernel)
  refine va_sld (pc := 1614) hx hb hX hbl hbA hW.2.2 (vp_in_nI (n := 3) (by decide) (by decide)) dL_law_1614 ?_
  refine c_Vl (pc := 1615) (As := [.int (xs (1 : Int32).toNatClampNeg), .int (xs (2 : Int32).toNatClampNeg), .int (xs (3 : Int32).toNatClampNeg)]) (rest := [.long (wv (xs (1 : Int32).toNatClampNeg) (xs (2 : Int32).toNatClampNeg) (xs (3 : Int32).toNatClampNeg))]) (wr := []) X hW 0 ciX12 rfl (C_X12_ways l g m0 b1 b6 b7 b8 b9 b10 b11 b12 b13 b14 b15 b16 b17 b21 b22 b23 b24 b25 b26 b28 b29 b30 b31 b32 b33 b34 b35 b36 b46 b47 b48 b49 b50 b51 b52 b53 b54 b55 b56 b57 b58 b59 b60 b61 b62 b63 (xs (1 : Int32).toNatClampNeg) (xs (2 : Int32).toNatClampNeg) (xs (3 : Int32).toNatClampNeg)) vL_159 [0, 1, 2] [] rfl rfl rfl rfl rfl rfl hl.1 rfl (Nat.le_of_ble_eq_true rfl) ⟨Nat.le_of_ble_eq_true rfl, Nat.le_of_ble_eq_true rfl⟩ ⟨Nat.le_of_ble_eq_true rfl, Nat.le_of_ble_eq_true rfl⟩ dL_law_1615 (fun r8 u9 H locs hq hW => ?_)
  obtain ⟨rfl, rfl⟩ := hq
  have hW : WD g (AL s) s _ _ [] := hW
  refine W.lcmp (pc := 1618) hx hb dL_law_1618 ?_
  rw [lg_self]
  refine lv_if_eq (tgt := 1865) (pc := 1619) hx hb dL_law_1619 rfl (fun c9 => ?_) (fun c9 => absurd (by decide) c9)
  exact law_end X hr hX hbl ⟨Nat.le_of_ble_eq_true rfl, Nat.le_of_ble_eq_true rfl⟩ (hW.pick [] rfl rfl) (lv_sub hl [0, 4] rfl)

set_option maxHeartbeats 4000000 in
set_option maxRecDepth 100000 in
theorem law_32 {p : Program} {e : Env} {s : State} {m : MethodId} {below : List Frame} {meth : Method} {c : Code} {l : Launch} {b : Nat} {xs : Nat → Int32} {g : GG} {H : Heap} {locs : List Loc} {ls : Array Slot} {a0 a1 a10 a2 a3 a4 a5 a6 a7 a8 a9 b1 b10 b11 b12 b13 b14 b15 b16 b17 b21 b22 b23 b24 b25 b26 b28 b29 b30 b31 b32 b33 b34 b35 b36 b46 b47 b48 b49 b50 b51 b52 b53 b54 b55 b56 b57 b58 b59 b6 b60 b61 b62 b63 b7 b8 b9 m0 o0 x0 : Nat} (X : CTX p l m meth c cL_law 7 s #[Value.ref b] RL g (AL s)) (hr : meth.sig.returnType = ret) (hX : va_X b 6 xs s s.heap) (hbl : b < s.heap.size) (hW : WD g (AL s) s H locs [(x0, .inr (11, [.ref a0, .ref a1, .ref a2, .ref a3, .ref a4, .ref a5, .ref a6, .ref a7, .ref a8, .ref a9, .ref a10, .int 0, .int 0, .int 0])), (m0, .inr (12, [.int 0, .ref b1, .int 0, .int 0, .int 0, .int 0, .ref b6, .ref b7, .ref b8, .ref b9, .ref b10, .ref b11, .ref b12, .ref b13, .ref b14, .ref b15, .ref b16, .ref b17, .int 0, .int (-1), .int (-1), .ref b21, .ref b22, .ref b23, .ref b24, .ref b25, .ref b26, .int 0, .ref b28, .ref b29, .ref b30, .ref b31, .ref b32, .ref b33, .ref b34, .ref b35, .ref b36, .int 0, .int 0, .int 0, .int 0, .int 0, .int 0, .int 0, .int 0, .int 0, .ref b46, .ref b47, .ref b48, .ref b49, .ref b50, .ref b51, .ref b52, .ref b53, .ref b54, .ref b55, .ref b56, .ref b57, .ref b58, .ref b59, .ref b60, .ref b61, .ref b62, .ref b63]))]) (hl : lv_has ls 7 [(0, .ref b), (1, .ref x0), (2, .ref m0), (3, .ref o0), (4, .int 0)]) : W p l e room_1 s m #[Value.ref b] below meth c H locs 97 615458 (lw_Z below #[Value.ref b] s) (F0 m 1624 ls []) := by
  have hx := X.1
  have hb := X.2.1
  have hbA : ¬ (AL s) b := Nat.not_le.mpr hbl
  refine lv_aload_n (pc := 1624) hx hb dL_law_1624 rfl (lv_at hl 1 rfl) ?_
  refine lv_aload_n (pc := 1625) hx hb dL_law_1625 rfl (lv_at hl 0 rfl) ?_
  refine lv_iload (pc := 1626) hx hb dL_law_1626 (lv_at hl 4 rfl) ?_
  refine lv_iconst (v := 1) (pc := 1628) hx hb dL_law_1628 (by decide) ?_
  refine lv_iadd (pc := 1629) hx hb dL_law_1629 ?_
  refine lv_topi (fun v1 ev1 => ?_)
  obtain rfl : v1 = 1 := ev1.trans (by decide +kernel)
  refine va_sld (pc := 1630) hx hb hX hbl hbA hW.2.2 (vp_in_nI (n := 1) (by decide) (by decide)) dL_law_1630 ?_
  refine lv_aload_n (pc := 1631) hx hb dL_law_1631 rfl (lv_at hl 0 rfl) ?_
  refine lv_iload (pc := 1632) hx hb dL_law_1632 (lv_at hl 4 rfl) ?_
  refine lv_iconst (v := 2) (pc := 1634) hx hb dL_law_1634 (by decide) ?_
  refine lv_iadd (pc := 1635) hx hb dL_law_1635 ?_
  refine lv_topi (fun v2 ev2 => ?_)
  obtain rfl : v2 = 2 := ev2.trans (by decide +kernel)
  refine va_sld (pc := 1636) hx hb hX hbl hbA hW.2.2 (vp_in_nI (n := 2) (by decide) (by decide)) dL_law_1636 ?_
  refine lv_aload_n (pc := 1637) hx hb dL_law_1637 rfl (lv_at hl 0 rfl) ?_
  refine lv_iload (pc := 1638) hx hb dL_law_1638 (lv_at hl 4 rfl) ?_
  refine lv_iconst (v := 3) (pc := 1640) hx hb dL_law_1640 (by decide) ?_
  refine lv_iadd (pc := 1641) hx hb dL_law_1641 ?_
  refine lv_topi (fun v3 ev3 => ?_)
  obtain rfl : v3 = 3 := ev3.trans (by decide +kernel)
  refine va_sld (pc := 1642) hx hb hX hbl hbA hW.2.2 (vp_in_nI (n := 3) (by decide) (by decide)) dL_law_1642 ?_
  refine lv_i2l (pc := 1643) hx hb dL_law_1643 rfl ?_
  refine lv_bipush (v := 32) (pc := 1644) hx hb dL_law_1644 (by decide) ?_
  refine lv_lshl (v := _) (pc := 1646) hx hb dL_law_1646 rfl ?_
  refine lv_topl (fun v4 ev4 => ?_)
  obtain rfl : v4 = (xs (3 : Int32).toNatClampNeg).toInt64 <<< ((32 : Int32).toInt64 &&& 63) := ev4.trans (rfl)
  refine lv_aload_n (pc := 1647) hx hb dL_law_1647 rfl (lv_at hl 0 rfl) ?_
  refine lv_iload (pc := 1648) hx hb dL_law_1648 (lv_at hl 4 rfl) ?_
  refine lv_iconst (v := 4) (pc := 1650) hx hb dL_law_1650 (by decide) ?_
  refine lv_iadd (pc := 1651) hx hb dL_law_1651 ?_
  refine lv_topi (fun v5 ev5 => ?_)
  obtain rfl : v5 = 4 := ev5.trans (by decide +kernel)
  refine va_sld (pc := 1652) hx hb hX hbl hbA hW.2.2 (vp_in_nI (n := 4) (by decide) (by decide)) dL_law_1652 ?_
  refine lv_i2l (pc := 1653) hx hb dL_law_1653 rfl ?_
  refine lv_ldc2 (pc := 1654) hx hb X.2.2.2.1 (X.2.2.2.2.1 _ m_1806) dL_law_1654 ?_
  refine lv_land (pc := 1657) hx hb dL_law_1657 ?_
  refine lv_lor (pc := 1658) hx hb dL_law_1658 ?_
  refine c_Vi (pc := 1659) (As := [.int (xs (1 : Int32).toNatClampNeg), .int (xs (2 : Int32).toNatClampNeg), .long (((xs (3 : Int32).toNatClampNeg).toInt64 <<< ((32 : Int32).toInt64 &&& 63)) ||| (((xs (4 : Int32).toNatClampNeg).toInt64) &&& 4294967295))]) (rest := []) (wr := [(m0, .inr (12, [.int 0, .ref b1, .int 0, .int 0, .int 0, .int 0, .ref b6, .ref b7, .ref b8, .ref b9, .ref b10, .ref b11, .ref b12, .ref b13, .ref b14, .ref b15, .ref b16, .ref b17, .int 0, .int (-1), .int (-1), .ref b21, .ref b22, .ref b23, .ref b24, .ref b25, .ref b26, .int 0, .ref b28, .ref b29, .ref b30, .ref b31, .ref b32, .ref b33, .ref b34, .ref b35, .ref b36, .int 0, .int 0, .int 0, .int 0, .int 0, .int 0, .int 0, .int 0, .int 0, .ref b46, .ref b47, .ref b48, .ref b49, .ref b50, .ref b51, .ref b52, .ref b53, .ref b54, .ref b55, .ref b56, .ref b57, .ref b58, .ref b59, .ref b60, .ref b61, .ref b62, .ref b63]))]) X hW 0 ciX11 rfl (C_X11_drawn l g x0 a0 a1 a2 a3 a4 a5 a6 a7 a8 a9 a10 (xs (1 : Int32).toNatClampNeg) (xs (2 : Int32).toNatClampNeg) (((xs (3 : Int32).toNatClampNeg).toInt64 <<< ((32 : Int32).toInt64 &&& 63)) ||| (((xs (4 : Int32).toNatClampNeg).toInt64) &&& 4294967295))) vL_162 [0] [1] rfl rfl rfl rfl rfl rfl hl.1 rfl (Nat.le_of_ble_eq_true rfl) ⟨Nat.le_of_ble_eq_true rfl, Nat.le_of_ble_eq_true rfl⟩ ⟨Nat.le_of_ble_eq_true rfl, Nat.le_of_ble_eq_true rfl⟩ dL_law_1659 (fun r6 u9 H locs hq hW => ?_)
  obtain ⟨rfl, rfl⟩ := hq
  have hW : WD g (AL s) s _ _ [(m0, .inr (12, [.int 0, .ref b1, .int 0, .int 0, .int 0, .int 0, .ref b6, .ref b7, .ref b8, .ref b9, .ref b10, .ref b11, .ref b12, .ref b13, .ref b14, .ref b15, .ref b16, .ref b17, .int 0, .int (-1), .int (-1), .ref b21, .ref b22, .ref b23, .ref b24, .ref b25, .ref b26, .int 0, .ref b28, .ref b29, .ref b30, .ref b31, .ref b32, .ref b33, .ref b34, .ref b35, .ref b36, .int 0, .int 0, .int 0, .int 0, .int 0, .int 0, .int 0, .int 0, .int 0, .ref b46, .ref b47, .ref b48, .ref b49, .ref b50, .ref b51, .ref b52, .ref b53, .ref b54, .ref b55, .ref b56, .ref b57, .ref b58, .ref b59, .ref b60, .ref b61, .ref b62, .ref b63]))] := hW
  refine lv_aload_n (pc := 1662) hx hb dL_law_1662 rfl (lv_at hl 2 rfl) ?_
  refine lv_aload_n (pc := 1663) hx hb dL_law_1663 rfl (lv_at hl 0 rfl) ?_
  refine lv_iload (pc := 1664) hx hb dL_law_1664 (lv_at hl 4 rfl) ?_
  refine lv_iconst (v := 1) (pc := 1666) hx hb dL_law_1666 (by decide) ?_
  refine lv_iadd (pc := 1667) hx hb dL_law_1667 ?_
  refine lv_topi (fun v7 ev7 => ?_)
  obtain rfl : v7 = 1 := ev7.trans (by decide +kernel)
  refine va_sld (pc := 1668) hx hb hX hbl hbA hW.2.2 (vp_in_nI (n := 1) (by decide) (by decide)) dL_law_1668 ?_
  refine lv_aload_n (pc := 1669) hx hb dL_law_1669 rfl (lv_at hl 0 rfl) ?_
  refine lv_iload (pc := 1670) hx hb dL_law_1670 (lv_at hl 4 rfl) ?_
  refine lv_iconst (v := 2) (pc := 1672) hx hb dL_law_1672 (by decide) ?_
  refine lv_iadd (pc := 1673) hx hb dL_law_1673 ?_
  refine lv_topi (fun v8 ev8 => ?_)
  obtain rfl : v8 = 2 := ev8.trans (by decide +kernel)
  refine va_sld (pc := 1674) hx hb hX hbl hbA hW.2.2 (vp_in_nI (n := 2) (by decide) (by decide)) dL_law_1674 ?_
  refine lv_aload_n (pc := 1675) hx hb dL_law_1675 rfl (lv_at hl 0 rfl) ?_
  refine lv_iload (pc := 1676) hx hb dL_law_1676 (lv_at hl 4 rfl) ?_
  refine lv_iconst (v := 3) (pc := 1678) hx hb dL_law_1678 (by decide) ?_
  refine lv_iadd (pc := 1679) hx hb dL_law_1679 ?_
  refine lv_topi (fun v9 ev9 => ?_)
  obtain rfl : v9 = 3 := ev9.trans (by decide +kernel)
  refine va_sld (pc := 1680) hx hb hX hbl hbA hW.2.2 (vp_in_nI (n := 3) (by decide) (by decide)) dL_law_1680 ?_
  refine lv_i2l (pc := 1681) hx hb dL_law_1681 rfl ?_
  refine lv_bipush (v := 32) (pc := 1682) hx hb dL_law_1682 (by decide) ?_
  refine lv_lshl (v := _) (pc := 1684) hx hb dL_law_1684 rfl ?_
  refine lv_topl (fun v10 ev10 => ?_)
  obtain rfl : v10 = (xs (3 : Int32).toNatClampNeg).toInt64 <<< ((32 : Int32).toInt64 &&& 63) := ev10.trans (rfl)
  refine lv_aload_n (pc := 1685) hx hb dL_law_1685 rfl (lv_at hl 0 rfl) ?_
  refine lv_iload (pc := 1686) hx hb dL_law_1686 (lv_at hl 4 rfl) ?_
  refine lv_iconst (v := 4) (pc := 1688) hx hb dL_law_1688 (by decide) ?_
  refine lv_iadd (pc := 1689) hx hb dL_law_1689 ?_
  refine lv_topi (fun v11 ev11 => ?_)
  obtain rfl : v11 = 4 := ev11.trans (by decide +kernel)
  refine va_sld (pc := 1690) hx hb hX hbl hbA hW.2.2 (vp_in_nI (n := 4) (by decide) (by decide)) dL_law_1690 ?_
  refine lv_i2l (pc := 1691) hx hb dL_law_1691 rfl ?_
  refine lv_ldc2 (pc := 1692) hx hb X.2.2.2.1 (X.2.2.2.2.1 _ m_1806) dL_law_1692 ?_
  refine lv_land (pc := 1695) hx hb dL_law_1695 ?_
  refine lv_lor (pc := 1696) hx hb dL_law_1696 ?_
  refine c_Vi (pc := 1697) (As := [.int (xs (1 : Int32).toNatClampNeg), .int (xs (2 : Int32).toNatClampNeg), .long (((xs (3 : Int32).toNatClampNeg).toInt64 <<< ((32 : Int32).toInt64 &&& 63)) ||| (((xs (4 : Int32).toNatClampNeg).toInt64) &&& 4294967295))]) (rest := [.int (dv (xs (1 : Int32).toNatClampNeg) (xs (2 : Int32).toNatClampNeg) (((xs (3 : Int32).toNatClampNeg).toInt64 <<< ((32 : Int32).toInt64 &&& 63)) ||| (((xs (4 : Int32).toNatClampNeg).toInt64) &&& 4294967295)))]) (wr := []) X hW 0 ciX12 rfl (C_X12_drawn l g m0 b1 b6 b7 b8 b9 b10 b11 b12 b13 b14 b15 b16 b17 b21 b22 b23 b24 b25 b26 b28 b29 b30 b31 b32 b33 b34 b35 b36 b46 b47 b48 b49 b50 b51 b52 b53 b54 b55 b56 b57 b58 b59 b60 b61 b62 b63 (xs (1 : Int32).toNatClampNeg) (xs (2 : Int32).toNatClampNeg) (((xs (3 : Int32).toNatClampNeg).toInt64 <<< ((32 : Int32).toInt64 &&& 63)) ||| (((xs (4 : Int32).toNatClampNeg).toInt64) &&& 4294967295))) vL_166 [0] [] rfl rfl rfl rfl rfl rfl hl.1 rfl (Nat.le_of_ble_eq_true rfl) ⟨Nat.le_of_ble_eq_true rfl, Nat.le_of_ble_eq_true rfl⟩ ⟨Nat.le_of_ble_eq_true rfl, Nat.le_of_ble_eq_true rfl⟩ dL_law_1697 (fun r12 u9 H locs hq hW => ?_)
  obtain ⟨rfl, rfl⟩ := hq
  have hW : WD g (AL s) s _ _ [] := hW
  refine lv_icmp_eq (tgt := 1865) (pc := 1700) hx hb dL_law_1700 rfl (fun c13 => ?_) (fun c13 => absurd (rfl : dv (xs (1 : Int32).toNatClampNeg) (xs (2 : Int32).toNatClampNeg) (((xs (3 : Int32).toNatClampNeg).toInt64 <<< ((32 : Int32).toInt64 &&& 63)) ||| (((xs (4 : Int32).toNatClampNeg).toInt64) &&& 4294967295)) = dv (xs (1 : Int32).toNatClampNeg) (xs (2 : Int32).toNatClampNeg) (((xs (3 : Int32).toNatClampNeg).toInt64 <<< ((32 : Int32).toInt64 &&& 63)) ||| (((xs (4 : Int32).toNatClampNeg).toInt64) &&& 4294967295))) c13)
  exact law_end X hr hX hbl ⟨Nat.le_of_ble_eq_true rfl, Nat.le_of_ble_eq_true rfl⟩ (hW.pick [] rfl rfl) (lv_sub hl [0, 4] rfl)

set_option maxHeartbeats 4000000 in
set_option maxRecDepth 100000 in
theorem law_33 {p : Program} {e : Env} {s : State} {m : MethodId} {below : List Frame} {meth : Method} {c : Code} {l : Launch} {b : Nat} {xs : Nat → Int32} {g : GG} {H : Heap} {locs : List Loc} {ls : Array Slot} {a0 a1 a10 a2 a3 a4 a5 a6 a7 a8 a9 b1 b10 b11 b12 b13 b14 b15 b16 b17 b21 b22 b23 b24 b25 b26 b28 b29 b30 b31 b32 b33 b34 b35 b36 b46 b47 b48 b49 b50 b51 b52 b53 b54 b55 b56 b57 b58 b59 b6 b60 b61 b62 b63 b7 b8 b9 m0 o0 x0 : Nat} (X : CTX p l m meth c cL_law 7 s #[Value.ref b] RL g (AL s)) (hr : meth.sig.returnType = ret) (hX : va_X b 6 xs s s.heap) (hbl : b < s.heap.size) (hW : WD g (AL s) s H locs [(x0, .inr (11, [.ref a0, .ref a1, .ref a2, .ref a3, .ref a4, .ref a5, .ref a6, .ref a7, .ref a8, .ref a9, .ref a10, .int 0, .int 0, .int 0])), (m0, .inr (12, [.int 0, .ref b1, .int 0, .int 0, .int 0, .int 0, .ref b6, .ref b7, .ref b8, .ref b9, .ref b10, .ref b11, .ref b12, .ref b13, .ref b14, .ref b15, .ref b16, .ref b17, .int 0, .int (-1), .int (-1), .ref b21, .ref b22, .ref b23, .ref b24, .ref b25, .ref b26, .int 0, .ref b28, .ref b29, .ref b30, .ref b31, .ref b32, .ref b33, .ref b34, .ref b35, .ref b36, .int 0, .int 0, .int 0, .int 0, .int 0, .int 0, .int 0, .int 0, .int 0, .ref b46, .ref b47, .ref b48, .ref b49, .ref b50, .ref b51, .ref b52, .ref b53, .ref b54, .ref b55, .ref b56, .ref b57, .ref b58, .ref b59, .ref b60, .ref b61, .ref b62, .ref b63]))]) (hl : lv_has ls 7 [(0, .ref b), (1, .ref x0), (2, .ref m0), (3, .ref o0), (4, .int 0)]) : W p l e room_1 s m #[Value.ref b] below meth c H locs 97 615458 (lw_Z below #[Value.ref b] s) (F0 m 1705 ls []) := by
  have hx := X.1
  have hb := X.2.1
  have hbA : ¬ (AL s) b := Nat.not_le.mpr hbl
  refine lv_aload_n (pc := 1705) hx hb dL_law_1705 rfl (lv_at hl 1 rfl) ?_
  refine lv_aload_n (pc := 1706) hx hb dL_law_1706 rfl (lv_at hl 0 rfl) ?_
  refine lv_iload (pc := 1707) hx hb dL_law_1707 (lv_at hl 4 rfl) ?_
  refine lv_iconst (v := 1) (pc := 1709) hx hb dL_law_1709 (by decide) ?_
  refine lv_iadd (pc := 1710) hx hb dL_law_1710 ?_
  refine lv_topi (fun v1 ev1 => ?_)
  obtain rfl : v1 = 1 := ev1.trans (by decide +kernel)
  refine va_sld (pc := 1711) hx hb hX hbl hbA hW.2.2 (vp_in_nI (n := 1) (by decide) (by decide)) dL_law_1711 ?_
  refine lv_aload_n (pc := 1712) hx hb dL_law_1712 rfl (lv_at hl 0 rfl) ?_
  refine lv_iload (pc := 1713) hx hb dL_law_1713 (lv_at hl 4 rfl) ?_
  refine lv_iconst (v := 2) (pc := 1715) hx hb dL_law_1715 (by decide) ?_
  refine lv_iadd (pc := 1716) hx hb dL_law_1716 ?_
  refine lv_topi (fun v2 ev2 => ?_)
  obtain rfl : v2 = 2 := ev2.trans (by decide +kernel)
  refine va_sld (pc := 1717) hx hb hX hbl hbA hW.2.2 (vp_in_nI (n := 2) (by decide) (by decide)) dL_law_1717 ?_
  refine lv_aload_n (pc := 1718) hx hb dL_law_1718 rfl (lv_at hl 0 rfl) ?_
  refine lv_iload (pc := 1719) hx hb dL_law_1719 (lv_at hl 4 rfl) ?_
  refine lv_iconst (v := 3) (pc := 1721) hx hb dL_law_1721 (by decide) ?_
  refine lv_iadd (pc := 1722) hx hb dL_law_1722 ?_
  refine lv_topi (fun v3 ev3 => ?_)
  obtain rfl : v3 = 3 := ev3.trans (by decide +kernel)
  refine va_sld (pc := 1723) hx hb hX hbl hbA hW.2.2 (vp_in_nI (n := 3) (by decide) (by decide)) dL_law_1723 ?_
  refine lv_aload_n (pc := 1724) hx hb dL_law_1724 rfl (lv_at hl 0 rfl) ?_
  refine lv_iload (pc := 1725) hx hb dL_law_1725 (lv_at hl 4 rfl) ?_
  refine lv_iconst (v := 4) (pc := 1727) hx hb dL_law_1727 (by decide) ?_
  refine lv_iadd (pc := 1728) hx hb dL_law_1728 ?_
  refine lv_topi (fun v4 ev4 => ?_)
  obtain rfl : v4 = 4 := ev4.trans (by decide +kernel)
  refine va_sld (pc := 1729) hx hb hX hbl hbA hW.2.2 (vp_in_nI (n := 4) (by decide) (by decide)) dL_law_1729 ?_
  refine c_Vi (pc := 1730) (As := [.int (xs (1 : Int32).toNatClampNeg), .int (xs (2 : Int32).toNatClampNeg), .int (xs (3 : Int32).toNatClampNeg), .int (xs (4 : Int32).toNatClampNeg)]) (rest := []) (wr := [(m0, .inr (12, [.int 0, .ref b1, .int 0, .int 0, .int 0, .int 0, .ref b6, .ref b7, .ref b8, .ref b9, .ref b10, .ref b11, .ref b12, .ref b13, .ref b14, .ref b15, .ref b16, .ref b17, .int 0, .int (-1), .int (-1), .ref b21, .ref b22, .ref b23, .ref b24, .ref b25, .ref b26, .int 0, .ref b28, .ref b29, .ref b30, .ref b31, .ref b32, .ref b33, .ref b34, .ref b35, .ref b36, .int 0, .int 0, .int 0, .int 0, .int 0, .int 0, .int 0, .int 0, .int 0, .ref b46, .ref b47, .ref b48, .ref b49, .ref b50, .ref b51, .ref b52, .ref b53, .ref b54, .ref b55, .ref b56, .ref b57, .ref b58, .ref b59, .ref b60, .ref b61, .ref b62, .ref b63]))]) X hW 0 ciX11 rfl (C_X11_tale l g x0 a0 a1 a2 a3 a4 a5 a6 a7 a8 a9 a10 (xs (1 : Int32).toNatClampNeg) (xs (2 : Int32).toNatClampNeg) (xs (3 : Int32).toNatClampNeg) (xs (4 : Int32).toNatClampNeg)) vL_167 [0] [1] rfl rfl rfl rfl rfl rfl hl.1 rfl (Nat.le_of_ble_eq_true rfl) ⟨Nat.le_of_ble_eq_true rfl, Nat.le_of_ble_eq_true rfl⟩ ⟨Nat.le_of_ble_eq_true rfl, Nat.le_of_ble_eq_true rfl⟩ dL_law_1730 (fun r5 u9 H locs hq hW => ?_)
  obtain ⟨rfl, rfl⟩ := hq
  have hW : WD g (AL s) s _ _ [(m0, .inr (12, [.int 0, .ref b1, .int 0, .int 0, .int 0, .int 0, .ref b6, .ref b7, .ref b8, .ref b9, .ref b10, .ref b11, .ref b12, .ref b13, .ref b14, .ref b15, .ref b16, .ref b17, .int 0, .int (-1), .int (-1), .ref b21, .ref b22, .ref b23, .ref b24, .ref b25, .ref b26, .int 0, .ref b28, .ref b29, .ref b30, .ref b31, .ref b32, .ref b33, .ref b34, .ref b35, .ref b36, .int 0, .int 0, .int 0, .int 0, .int 0, .int 0, .int 0, .int 0, .int 0, .ref b46, .ref b47, .ref b48, .ref b49, .ref b50, .ref b51, .ref b52, .ref b53, .ref b54, .ref b55, .ref b56, .ref b57, .ref b58, .ref b59, .ref b60, .ref b61, .ref b62, .ref b63])), (x0, .inr (11, [.ref a0, .ref a1, .ref a2, .ref a3, .ref a4, .ref a5, .ref a6, .ref a7, .ref a8, .ref a9, .ref a10, .int 0, .int 0, .int 0]))] := hW
  refine lv_aload_n (pc := 1733) hx hb dL_law_1733 rfl (lv_at hl 2 rfl) ?_
  refine lv_aload_n (pc := 1734) hx hb dL_law_1734 rfl (lv_at hl 0 rfl) ?_
  refine lv_iload (pc := 1735) hx hb dL_law_1735 (lv_at hl 4 rfl) ?_
  refine lv_iconst (v := 1) (pc := 1737) hx hb dL_law_1737 (by decide) ?_
  refine lv_iadd (pc := 1738) hx hb dL_law_1738 ?_
  refine lv_topi (fun v6 ev6 => ?_)
  obtain rfl : v6 = 1 := ev6.trans (by decide +kernel)
  refine va_sld (pc := 1739) hx hb hX hbl hbA hW.2.2 (vp_in_nI (n := 1) (by decide) (by decide)) dL_law_1739 ?_
  refine lv_aload_n (pc := 1740) hx hb dL_law_1740 rfl (lv_at hl 0 rfl) ?_
  refine lv_iload (pc := 1741) hx hb dL_law_1741 (lv_at hl 4 rfl) ?_
  refine lv_iconst (v := 2) (pc := 1743) hx hb dL_law_1743 (by decide) ?_
  refine lv_iadd (pc := 1744) hx hb dL_law_1744 ?_
  refine lv_topi (fun v7 ev7 => ?_)
  obtain rfl : v7 = 2 := ev7.trans (by decide +kernel)
  refine va_sld (pc := 1745) hx hb hX hbl hbA hW.2.2 (vp_in_nI (n := 2) (by decide) (by decide)) dL_law_1745 ?_
  refine lv_aload_n (pc := 1746) hx hb dL_law_1746 rfl (lv_at hl 0 rfl) ?_
  refine lv_iload (pc := 1747) hx hb dL_law_1747 (lv_at hl 4 rfl) ?_
  refine lv_iconst (v := 3) (pc := 1749) hx hb dL_law_1749 (by decide) ?_
  refine lv_iadd (pc := 1750) hx hb dL_law_1750 ?_
  refine lv_topi (fun v8 ev8 => ?_)
  obtain rfl : v8 = 3 := ev8.trans (by decide +kernel)
  refine va_sld (pc := 1751) hx hb hX hbl hbA hW.2.2 (vp_in_nI (n := 3) (by decide) (by decide)) dL_law_1751 ?_
  refine lv_aload_n (pc := 1752) hx hb dL_law_1752 rfl (lv_at hl 0 rfl) ?_
  refine lv_iload (pc := 1753) hx hb dL_law_1753 (lv_at hl 4 rfl) ?_
  refine lv_iconst (v := 4) (pc := 1755) hx hb dL_law_1755 (by decide) ?_
  refine lv_iadd (pc := 1756) hx hb dL_law_1756 ?_
  refine lv_topi (fun v9 ev9 => ?_)
  obtain rfl : v9 = 4 := ev9.trans (by decide +kernel)
  refine va_sld (pc := 1757) hx hb hX hbl hbA hW.2.2 (vp_in_nI (n := 4) (by decide) (by decide)) dL_law_1757 ?_
  refine c_Vi (pc := 1758) (As := [.int (xs (1 : Int32).toNatClampNeg), .int (xs (2 : Int32).toNatClampNeg), .int (xs (3 : Int32).toNatClampNeg), .int (xs (4 : Int32).toNatClampNeg)]) (rest := [.int 0]) (wr := [(x0, .inr (11, [.ref a0, .ref a1, .ref a2, .ref a3, .ref a4, .ref a5, .ref a6, .ref a7, .ref a8, .ref a9, .ref a10, .int 0, .int 0, .int 0]))]) X hW 0 ciX12 rfl (C_X12_tale l g m0 b1 b6 b7 b8 b9 b10 b11 b12 b13 b14 b15 b16 b17 b21 b22 b23 b24 b25 b26 b28 b29 b30 b31 b32 b33 b34 b35 b36 b46 b47 b48 b49 b50 b51 b52 b53 b54 b55 b56 b57 b58 b59 b60 b61 b62 b63 (xs (1 : Int32).toNatClampNeg) (xs (2 : Int32).toNatClampNeg) (xs (3 : Int32).toNatClampNeg) (xs (4 : Int32).toNatClampNeg)) vL_171 [0] [1] rfl rfl rfl rfl rfl rfl hl.1 rfl (Nat.le_of_ble_eq_true rfl) ⟨Nat.le_of_ble_eq_true rfl, Nat.le_of_ble_eq_true rfl⟩ ⟨Nat.le_of_ble_eq_true rfl, Nat.le_of_ble_eq_true rfl⟩ dL_law_1758 (fun r10 u9 H locs hq hW => ?_)
  obtain ⟨rfl, rfl⟩ := hq
  have hW : WD g (AL s) s _ _ [(x0, .inr (11, [.ref a0, .ref a1, .ref a2, .ref a3, .ref a4, .ref a5, .ref a6, .ref a7, .ref a8, .ref a9, .ref a10, .int 0, .int 0, .int 0])), (m0, .inr (12, [.int 0, .ref b1, .int 0, .int 0, .int 0, .int 0, .ref b6, .ref b7, .ref b8, .ref b9, .ref b10, .ref b11, .ref b12, .ref b13, .ref b14, .ref b15, .ref b16, .ref b17, .int 0, .int (-1), .int (-1), .ref b21, .ref b22, .ref b23, .ref b24, .ref b25, .ref b26, .int 0, .ref b28, .ref b29, .ref b30, .ref b31, .ref b32, .ref b33, .ref b34, .ref b35, .ref b36, .int 0, .int 0, .int 0, .int 0, .int 0, .int 0, .int 0, .int 0, .int 0, .ref b46, .ref b47, .ref b48, .ref b49, .ref b50, .ref b51, .ref b52, .ref b53, .ref b54, .ref b55, .ref b56, .ref b57, .ref b58, .ref b59, .ref b60, .ref b61, .ref b62, .ref b63]))] := hW
  refine lv_icmp_eq (tgt := 1865) (pc := 1761) hx hb dL_law_1761 rfl (fun c11 => ?_) (fun c11 => absurd (by decide) c11)
  exact law_end X hr hX hbl ⟨Nat.le_of_ble_eq_true rfl, Nat.le_of_ble_eq_true rfl⟩ (hW.pick [] rfl rfl) (lv_sub hl [0, 4] rfl)

set_option maxHeartbeats 4000000 in
set_option maxRecDepth 100000 in
theorem law_34 {p : Program} {e : Env} {s : State} {m : MethodId} {below : List Frame} {meth : Method} {c : Code} {l : Launch} {b : Nat} {xs : Nat → Int32} {g : GG} {H : Heap} {locs : List Loc} {ls : Array Slot} {a0 a1 a10 a2 a3 a4 a5 a6 a7 a8 a9 b1 b10 b11 b12 b13 b14 b15 b16 b17 b21 b22 b23 b24 b25 b26 b28 b29 b30 b31 b32 b33 b34 b35 b36 b46 b47 b48 b49 b50 b51 b52 b53 b54 b55 b56 b57 b58 b59 b6 b60 b61 b62 b63 b7 b8 b9 m0 o0 x0 : Nat} (X : CTX p l m meth c cL_law 7 s #[Value.ref b] RL g (AL s)) (hr : meth.sig.returnType = ret) (hX : va_X b 6 xs s s.heap) (hbl : b < s.heap.size) (hW : WD g (AL s) s H locs [(x0, .inr (11, [.ref a0, .ref a1, .ref a2, .ref a3, .ref a4, .ref a5, .ref a6, .ref a7, .ref a8, .ref a9, .ref a10, .int 0, .int 0, .int 0])), (m0, .inr (12, [.int 0, .ref b1, .int 0, .int 0, .int 0, .int 0, .ref b6, .ref b7, .ref b8, .ref b9, .ref b10, .ref b11, .ref b12, .ref b13, .ref b14, .ref b15, .ref b16, .ref b17, .int 0, .int (-1), .int (-1), .ref b21, .ref b22, .ref b23, .ref b24, .ref b25, .ref b26, .int 0, .ref b28, .ref b29, .ref b30, .ref b31, .ref b32, .ref b33, .ref b34, .ref b35, .ref b36, .int 0, .int 0, .int 0, .int 0, .int 0, .int 0, .int 0, .int 0, .int 0, .ref b46, .ref b47, .ref b48, .ref b49, .ref b50, .ref b51, .ref b52, .ref b53, .ref b54, .ref b55, .ref b56, .ref b57, .ref b58, .ref b59, .ref b60, .ref b61, .ref b62, .ref b63]))]) (hl : lv_has ls 7 [(0, .ref b), (1, .ref x0), (2, .ref m0), (3, .ref o0), (4, .int 0)]) : W p l e room_1 s m #[Value.ref b] below meth c H locs 97 615458 (lw_Z below #[Value.ref b] s) (F0 m 1766 ls []) := by
  have hx := X.1
  have hb := X.2.1
  have hbA : ¬ (AL s) b := Nat.not_le.mpr hbl
  refine lv_aload_n (pc := 1766) hx hb dL_law_1766 rfl (lv_at hl 1 rfl) ?_
  refine lv_aload_n (pc := 1767) hx hb dL_law_1767 rfl (lv_at hl 0 rfl) ?_
  refine lv_iload (pc := 1768) hx hb dL_law_1768 (lv_at hl 4 rfl) ?_
  refine lv_iconst (v := 1) (pc := 1770) hx hb dL_law_1770 (by decide) ?_
  refine lv_iadd (pc := 1771) hx hb dL_law_1771 ?_
  refine lv_topi (fun v1 ev1 => ?_)
  obtain rfl : v1 = 1 := ev1.trans (by decide +kernel)
  refine va_sld (pc := 1772) hx hb hX hbl hbA hW.2.2 (vp_in_nI (n := 1) (by decide) (by decide)) dL_law_1772 ?_
  refine lv_aload_n (pc := 1773) hx hb dL_law_1773 rfl (lv_at hl 0 rfl) ?_
  refine lv_iload (pc := 1774) hx hb dL_law_1774 (lv_at hl 4 rfl) ?_
  refine lv_iconst (v := 2) (pc := 1776) hx hb dL_law_1776 (by decide) ?_
  refine lv_iadd (pc := 1777) hx hb dL_law_1777 ?_
  refine lv_topi (fun v2 ev2 => ?_)
  obtain rfl : v2 = 2 := ev2.trans (by decide +kernel)
  refine va_sld (pc := 1778) hx hb hX hbl hbA hW.2.2 (vp_in_nI (n := 2) (by decide) (by decide)) dL_law_1778 ?_
  refine c_Vi (pc := 1779) (As := [.int (xs (1 : Int32).toNatClampNeg), .int (xs (2 : Int32).toNatClampNeg)]) (rest := []) (wr := [(m0, .inr (12, [.int 0, .ref b1, .int 0, .int 0, .int 0, .int 0, .ref b6, .ref b7, .ref b8, .ref b9, .ref b10, .ref b11, .ref b12, .ref b13, .ref b14, .ref b15, .ref b16, .ref b17, .int 0, .int (-1), .int (-1), .ref b21, .ref b22, .ref b23, .ref b24, .ref b25, .ref b26, .int 0, .ref b28, .ref b29, .ref b30, .ref b31, .ref b32, .ref b33, .ref b34, .ref b35, .ref b36, .int 0, .int 0, .int 0, .int 0, .int 0, .int 0, .int 0, .int 0, .int 0, .ref b46, .ref b47, .ref b48, .ref b49, .ref b50, .ref b51, .ref b52, .ref b53, .ref b54, .ref b55, .ref b56, .ref b57, .ref b58, .ref b59, .ref b60, .ref b61, .ref b62, .ref b63]))]) X hW 0 ciX11 rfl (C_X11_who l g x0 a0 a1 a2 a3 a4 a5 a6 a7 a8 a9 a10 (xs (1 : Int32).toNatClampNeg) (xs (2 : Int32).toNatClampNeg)) vL_172 [0] [1] rfl rfl rfl rfl rfl rfl hl.1 rfl (Nat.le_of_ble_eq_true rfl) ⟨Nat.le_of_ble_eq_true rfl, Nat.le_of_ble_eq_true rfl⟩ ⟨Nat.le_of_ble_eq_true rfl, Nat.le_of_ble_eq_true rfl⟩ dL_law_1779 (fun r3 u9 H locs hq hW => ?_)
  obtain ⟨rfl, rfl⟩ := hq
  have hW : WD g (AL s) s _ _ [(m0, .inr (12, [.int 0, .ref b1, .int 0, .int 0, .int 0, .int 0, .ref b6, .ref b7, .ref b8, .ref b9, .ref b10, .ref b11, .ref b12, .ref b13, .ref b14, .ref b15, .ref b16, .ref b17, .int 0, .int (-1), .int (-1), .ref b21, .ref b22, .ref b23, .ref b24, .ref b25, .ref b26, .int 0, .ref b28, .ref b29, .ref b30, .ref b31, .ref b32, .ref b33, .ref b34, .ref b35, .ref b36, .int 0, .int 0, .int 0, .int 0, .int 0, .int 0, .int 0, .int 0, .int 0, .ref b46, .ref b47, .ref b48, .ref b49, .ref b50, .ref b51, .ref b52, .ref b53, .ref b54, .ref b55, .ref b56, .ref b57, .ref b58, .ref b59, .ref b60, .ref b61, .ref b62, .ref b63])), (x0, .inr (11, [.ref a0, .ref a1, .ref a2, .ref a3, .ref a4, .ref a5, .ref a6, .ref a7, .ref a8, .ref a9, .ref a10, .int 0, .int 0, .int 0]))] := hW
  refine lv_aload_n (pc := 1782) hx hb dL_law_1782 rfl (lv_at hl 2 rfl) ?_
  refine lv_aload_n (pc := 1783) hx hb dL_law_1783 rfl (lv_at hl 0 rfl) ?_
  refine lv_iload (pc := 1784) hx hb dL_law_1784 (lv_at hl 4 rfl) ?_
  refine lv_iconst (v := 1) (pc := 1786) hx hb dL_law_1786 (by decide) ?_
  refine lv_iadd (pc := 1787) hx hb dL_law_1787 ?_
  refine lv_topi (fun v4 ev4 => ?_)
  obtain rfl : v4 = 1 := ev4.trans (by decide +kernel)
  refine va_sld (pc := 1788) hx hb hX hbl hbA hW.2.2 (vp_in_nI (n := 1) (by decide) (by decide)) dL_law_1788 ?_
  refine lv_aload_n (pc := 1789) hx hb dL_law_1789 rfl (lv_at hl 0 rfl) ?_
  refine lv_iload (pc := 1790) hx hb dL_law_1790 (lv_at hl 4 rfl) ?_
  refine lv_iconst (v := 2) (pc := 1792) hx hb dL_law_1792 (by decide) ?_
  refine lv_iadd (pc := 1793) hx hb dL_law_1793 ?_
  refine lv_topi (fun v5 ev5 => ?_)
  obtain rfl : v5 = 2 := ev5.trans (by decide +kernel)
  refine va_sld (pc := 1794) hx hb hX hbl hbA hW.2.2 (vp_in_nI (n := 2) (by decide) (by decide)) dL_law_1794 ?_
  refine c_Vi (pc := 1795) (As := [.int (xs (1 : Int32).toNatClampNeg), .int (xs (2 : Int32).toNatClampNeg)]) (rest := [.int (-1)]) (wr := [(x0, .inr (11, [.ref a0, .ref a1, .ref a2, .ref a3, .ref a4, .ref a5, .ref a6, .ref a7, .ref a8, .ref a9, .ref a10, .int 0, .int 0, .int 0]))]) X hW 0 ciX12 rfl (C_X12_who l g m0 b1 b6 b7 b8 b9 b10 b11 b12 b13 b14 b15 b16 b17 b21 b22 b23 b24 b25 b26 b28 b29 b30 b31 b32 b33 b34 b35 b36 b46 b47 b48 b49 b50 b51 b52 b53 b54 b55 b56 b57 b58 b59 b60 b61 b62 b63 (xs (1 : Int32).toNatClampNeg) (xs (2 : Int32).toNatClampNeg)) vL_175 [0] [1] rfl rfl rfl rfl rfl rfl hl.1 rfl (Nat.le_of_ble_eq_true rfl) ⟨Nat.le_of_ble_eq_true rfl, Nat.le_of_ble_eq_true rfl⟩ ⟨Nat.le_of_ble_eq_true rfl, Nat.le_of_ble_eq_true rfl⟩ dL_law_1795 (fun r6 u9 H locs hq hW => ?_)
  obtain ⟨rfl, rfl⟩ := hq
  have hW : WD g (AL s) s _ _ [(x0, .inr (11, [.ref a0, .ref a1, .ref a2, .ref a3, .ref a4, .ref a5, .ref a6, .ref a7, .ref a8, .ref a9, .ref a10, .int 0, .int 0, .int 0])), (m0, .inr (12, [.int 0, .ref b1, .int 0, .int 0, .int 0, .int 0, .ref b6, .ref b7, .ref b8, .ref b9, .ref b10, .ref b11, .ref b12, .ref b13, .ref b14, .ref b15, .ref b16, .ref b17, .int 0, .int (-1), .int (-1), .ref b21, .ref b22, .ref b23, .ref b24, .ref b25, .ref b26, .int 0, .ref b28, .ref b29, .ref b30, .ref b31, .ref b32, .ref b33, .ref b34, .ref b35, .ref b36, .int 0, .int 0, .int 0, .int 0, .int 0, .int 0, .int 0, .int 0, .int 0, .ref b46, .ref b47, .ref b48, .ref b49, .ref b50, .ref b51, .ref b52, .ref b53, .ref b54, .ref b55, .ref b56, .ref b57, .ref b58, .ref b59, .ref b60, .ref b61, .ref b62, .ref b63]))] := hW
  refine lv_icmp_eq (tgt := 1865) (pc := 1798) hx hb dL_law_1798 rfl (fun c7 => ?_) (fun c7 => absurd (by decide) c7)
  exact law_end X hr hX hbl ⟨Nat.le_of_ble_eq_true rfl, Nat.le_of_ble_eq_true rfl⟩ (hW.pick [] rfl rfl) (lv_sub hl [0, 4] rfl)

set_option maxHeartbeats 4000000 in
set_option maxRecDepth 100000 in
theorem law_35 {p : Program} {e : Env} {s : State} {m : MethodId} {below : List Frame} {meth : Method} {c : Code} {l : Launch} {b : Nat} {xs : Nat → Int32} {g : GG} {H : Heap} {locs : List Loc} {ls : Array Slot} {a0 a1 a10 a2 a3 a4 a5 a6 a7 a8 a9 b1 b10 b11 b12 b13 b14 b15 b16 b17 b21 b22 b23 b24 b25 b26 b28 b29 b30 b31 b32 b33 b34 b35 b36 b46 b47 b48 b49 b50 b51 b52 b53 b54 b55 b56 b57 b58 b59 b6 b60 b61 b62 b63 b7 b8 b9 m0 o0 x0 : Nat} (X : CTX p l m meth c cL_law 7 s #[Value.ref b] RL g (AL s)) (hr : meth.sig.returnType = ret) (hX : va_X b 6 xs s s.heap) (hbl : b < s.heap.size) (hW : WD g (AL s) s H locs [(x0, .inr (11, [.ref a0, .ref a1, .ref a2, .ref a3, .ref a4, .ref a5, .ref a6, .ref a7, .ref a8, .ref a9, .ref a10, .int 0, .int 0, .int 0])), (m0, .inr (12, [.int 0, .ref b1, .int 0, .int 0, .int 0, .int 0, .ref b6, .ref b7, .ref b8, .ref b9, .ref b10, .ref b11, .ref b12, .ref b13, .ref b14, .ref b15, .ref b16, .ref b17, .int 0, .int (-1), .int (-1), .ref b21, .ref b22, .ref b23, .ref b24, .ref b25, .ref b26, .int 0, .ref b28, .ref b29, .ref b30, .ref b31, .ref b32, .ref b33, .ref b34, .ref b35, .ref b36, .int 0, .int 0, .int 0, .int 0, .int 0, .int 0, .int 0, .int 0, .int 0, .ref b46, .ref b47, .ref b48, .ref b49, .ref b50, .ref b51, .ref b52, .ref b53, .ref b54, .ref b55, .ref b56, .ref b57, .ref b58, .ref b59, .ref b60, .ref b61, .ref b62, .ref b63]))]) (hl : lv_has ls 7 [(0, .ref b), (1, .ref x0), (2, .ref m0), (3, .ref o0), (4, .int 0)]) : W p l e room_1 s m #[Value.ref b] below meth c H locs 97 615458 (lw_Z below #[Value.ref b] s) (F0 m 1803 ls []) := by
  have hx := X.1
  have hb := X.2.1
  have hbA : ¬ (AL s) b := Nat.not_le.mpr hbl
  refine lv_aload_n (pc := 1803) hx hb dL_law_1803 rfl (lv_at hl 1 rfl) ?_
  refine lv_aload_n (pc := 1804) hx hb dL_law_1804 rfl (lv_at hl 0 rfl) ?_
  refine lv_iload (pc := 1805) hx hb dL_law_1805 (lv_at hl 4 rfl) ?_
  refine lv_iconst (v := 1) (pc := 1807) hx hb dL_law_1807 (by decide) ?_
  refine lv_iadd (pc := 1808) hx hb dL_law_1808 ?_
  refine lv_topi (fun v1 ev1 => ?_)
  obtain rfl : v1 = 1 := ev1.trans (by decide +kernel)
  refine va_sld (pc := 1809) hx hb hX hbl hbA hW.2.2 (vp_in_nI (n := 1) (by decide) (by decide)) dL_law_1809 ?_
  refine lv_aload_n (pc := 1810) hx hb dL_law_1810 rfl (lv_at hl 0 rfl) ?_
  refine lv_iload (pc := 1811) hx hb dL_law_1811 (lv_at hl 4 rfl) ?_
  refine lv_iconst (v := 2) (pc := 1813) hx hb dL_law_1813 (by decide) ?_
  refine lv_iadd (pc := 1814) hx hb dL_law_1814 ?_
  refine lv_topi (fun v2 ev2 => ?_)
  obtain rfl : v2 = 2 := ev2.trans (by decide +kernel)
  refine va_sld (pc := 1815) hx hb hX hbl hbA hW.2.2 (vp_in_nI (n := 2) (by decide) (by decide)) dL_law_1815 ?_
  refine c_Vi (pc := 1816) (As := [.int (xs (1 : Int32).toNatClampNeg), .int (xs (2 : Int32).toNatClampNeg)]) (rest := []) (wr := [(m0, .inr (12, [.int 0, .ref b1, .int 0, .int 0, .int 0, .int 0, .ref b6, .ref b7, .ref b8, .ref b9, .ref b10, .ref b11, .ref b12, .ref b13, .ref b14, .ref b15, .ref b16, .ref b17, .int 0, .int (-1), .int (-1), .ref b21, .ref b22, .ref b23, .ref b24, .ref b25, .ref b26, .int 0, .ref b28, .ref b29, .ref b30, .ref b31, .ref b32, .ref b33, .ref b34, .ref b35, .ref b36, .int 0, .int 0, .int 0, .int 0, .int 0, .int 0, .int 0, .int 0, .int 0, .ref b46, .ref b47, .ref b48, .ref b49, .ref b50, .ref b51, .ref b52, .ref b53, .ref b54, .ref b55, .ref b56, .ref b57, .ref b58, .ref b59, .ref b60, .ref b61, .ref b62, .ref b63]))]) X hW 0 ciX11 rfl (C_X11_fits l g x0 a0 a1 a2 a3 a4 a5 a6 a7 a8 a9 a10 (xs (1 : Int32).toNatClampNeg) (xs (2 : Int32).toNatClampNeg)) vL_176 [0] [1] rfl rfl rfl rfl rfl rfl hl.1 rfl (Nat.le_of_ble_eq_true rfl) ⟨Nat.le_of_ble_eq_true rfl, Nat.le_of_ble_eq_true rfl⟩ ⟨Nat.le_of_ble_eq_true rfl, Nat.le_of_ble_eq_true rfl⟩ dL_law_1816 (fun r3 u9 H locs hq hW => ?_)
  obtain ⟨rfl, rfl⟩ := hq
  have hW : WD g (AL s) s _ _ [(m0, .inr (12, [.int 0, .ref b1, .int 0, .int 0, .int 0, .int 0, .ref b6, .ref b7, .ref b8, .ref b9, .ref b10, .ref b11, .ref b12, .ref b13, .ref b14, .ref b15, .ref b16, .ref b17, .int 0, .int (-1), .int (-1), .ref b21, .ref b22, .ref b23, .ref b24, .ref b25, .ref b26, .int 0, .ref b28, .ref b29, .ref b30, .ref b31, .ref b32, .ref b33, .ref b34, .ref b35, .ref b36, .int 0, .int 0, .int 0, .int 0, .int 0, .int 0, .int 0, .int 0, .int 0, .ref b46, .ref b47, .ref b48, .ref b49, .ref b50, .ref b51, .ref b52, .ref b53, .ref b54, .ref b55, .ref b56, .ref b57, .ref b58, .ref b59, .ref b60, .ref b61, .ref b62, .ref b63])), (x0, .inr (11, [.ref a0, .ref a1, .ref a2, .ref a3, .ref a4, .ref a5, .ref a6, .ref a7, .ref a8, .ref a9, .ref a10, .int 0, .int 0, .int 0]))] := hW
  refine lv_aload_n (pc := 1819) hx hb dL_law_1819 rfl (lv_at hl 2 rfl) ?_
  refine lv_aload_n (pc := 1820) hx hb dL_law_1820 rfl (lv_at hl 0 rfl) ?_
  refine lv_iload (pc := 1821) hx hb dL_law_1821 (lv_at hl 4 rfl) ?_
  refine lv_iconst (v := 1) (pc := 1823) hx hb dL_law_1823 (by decide) ?_
  refine lv_iadd (pc := 1824) hx hb dL_law_1824 ?_
  refine lv_topi (fun v4 ev4 => ?_)
  obtain rfl : v4 = 1 := ev4.trans (by decide +kernel)
  refine va_sld (pc := 1825) hx hb hX hbl hbA hW.2.2 (vp_in_nI (n := 1) (by decide) (by decide)) dL_law_1825 ?_
  refine lv_aload_n (pc := 1826) hx hb dL_law_1826 rfl (lv_at hl 0 rfl) ?_
  refine lv_iload (pc := 1827) hx hb dL_law_1827 (lv_at hl 4 rfl) ?_
  refine lv_iconst (v := 2) (pc := 1829) hx hb dL_law_1829 (by decide) ?_
  refine lv_iadd (pc := 1830) hx hb dL_law_1830 ?_
  refine lv_topi (fun v5 ev5 => ?_)
  obtain rfl : v5 = 2 := ev5.trans (by decide +kernel)
  refine va_sld (pc := 1831) hx hb hX hbl hbA hW.2.2 (vp_in_nI (n := 2) (by decide) (by decide)) dL_law_1831 ?_
  refine c_Vi (pc := 1832) (As := [.int (xs (1 : Int32).toNatClampNeg), .int (xs (2 : Int32).toNatClampNeg)]) (rest := [.int (-1)]) (wr := [(x0, .inr (11, [.ref a0, .ref a1, .ref a2, .ref a3, .ref a4, .ref a5, .ref a6, .ref a7, .ref a8, .ref a9, .ref a10, .int 0, .int 0, .int 0]))]) X hW 0 ciX12 rfl (C_X12_fits l g m0 b1 b6 b7 b8 b9 b10 b11 b12 b13 b14 b15 b16 b17 b21 b22 b23 b24 b25 b26 b28 b29 b30 b31 b32 b33 b34 b35 b36 b46 b47 b48 b49 b50 b51 b52 b53 b54 b55 b56 b57 b58 b59 b60 b61 b62 b63 (xs (1 : Int32).toNatClampNeg) (xs (2 : Int32).toNatClampNeg)) vL_179 [0] [1] rfl rfl rfl rfl rfl rfl hl.1 rfl (Nat.le_of_ble_eq_true rfl) ⟨Nat.le_of_ble_eq_true rfl, Nat.le_of_ble_eq_true rfl⟩ ⟨Nat.le_of_ble_eq_true rfl, Nat.le_of_ble_eq_true rfl⟩ dL_law_1832 (fun r6 u9 H locs hq hW => ?_)
  obtain ⟨rfl, rfl⟩ := hq
  have hW : WD g (AL s) s _ _ [(x0, .inr (11, [.ref a0, .ref a1, .ref a2, .ref a3, .ref a4, .ref a5, .ref a6, .ref a7, .ref a8, .ref a9, .ref a10, .int 0, .int 0, .int 0])), (m0, .inr (12, [.int 0, .ref b1, .int 0, .int 0, .int 0, .int 0, .ref b6, .ref b7, .ref b8, .ref b9, .ref b10, .ref b11, .ref b12, .ref b13, .ref b14, .ref b15, .ref b16, .ref b17, .int 0, .int (-1), .int (-1), .ref b21, .ref b22, .ref b23, .ref b24, .ref b25, .ref b26, .int 0, .ref b28, .ref b29, .ref b30, .ref b31, .ref b32, .ref b33, .ref b34, .ref b35, .ref b36, .int 0, .int 0, .int 0, .int 0, .int 0, .int 0, .int 0, .int 0, .int 0, .ref b46, .ref b47, .ref b48, .ref b49, .ref b50, .ref b51, .ref b52, .ref b53, .ref b54, .ref b55, .ref b56, .ref b57, .ref b58, .ref b59, .ref b60, .ref b61, .ref b62, .ref b63]))] := hW
  refine lv_icmp_eq (tgt := 1865) (pc := 1835) hx hb dL_law_1835 rfl (fun c7 => ?_) (fun c7 => absurd (by decide) c7)
  exact law_end X hr hX hbl ⟨Nat.le_of_ble_eq_true rfl, Nat.le_of_ble_eq_true rfl⟩ (hW.pick [] rfl rfl) (lv_sub hl [0, 4] rfl)

set_option maxHeartbeats 4000000 in
set_option maxRecDepth 100000 in
theorem law_36 {p : Program} {e : Env} {s : State} {m : MethodId} {below : List Frame} {meth : Method} {c : Code} {l : Launch} {b : Nat} {xs : Nat → Int32} {g : GG} {H : Heap} {locs : List Loc} {ls : Array Slot} {a0 a1 a10 a2 a3 a4 a5 a6 a7 a8 a9 b1 b10 b11 b12 b13 b14 b15 b16 b17 b21 b22 b23 b24 b25 b26 b28 b29 b30 b31 b32 b33 b34 b35 b36 b46 b47 b48 b49 b50 b51 b52 b53 b54 b55 b56 b57 b58 b59 b6 b60 b61 b62 b63 b7 b8 b9 m0 o0 tq x0 : Nat} (X : CTX p l m meth c cL_law 7 s #[Value.ref b] RL g (AL s)) (hr : meth.sig.returnType = ret) (hX : va_X b 6 xs s s.heap) (hbl : b < s.heap.size) (hW : WD g (AL s) s H locs [(x0, .inr (11, [.ref a0, .ref a1, .ref a2, .ref a3, .ref a4, .ref a5, .ref a6, .ref a7, .ref a8, .ref a9, .ref a10, .int 0, .int 0, .int 0])), (a0, .inr (8, [.ref tq, .int 0, .int 0])), (m0, .inr (12, [.int 0, .ref b1, .int 0, .int 0, .int 0, .int 0, .ref b6, .ref b7, .ref b8, .ref b9, .ref b10, .ref b11, .ref b12, .ref b13, .ref b14, .ref b15, .ref b16, .ref b17, .int 0, .int (-1), .int (-1), .ref b21, .ref b22, .ref b23, .ref b24, .ref b25, .ref b26, .int 0, .ref b28, .ref b29, .ref b30, .ref b31, .ref b32, .ref b33, .ref b34, .ref b35, .ref b36, .int 0, .int 0, .int 0, .int 0, .int 0, .int 0, .int 0, .int 0, .int 0, .ref b46, .ref b47, .ref b48, .ref b49, .ref b50, .ref b51, .ref b52, .ref b53, .ref b54, .ref b55, .ref b56, .ref b57, .ref b58, .ref b59, .ref b60, .ref b61, .ref b62, .ref b63]))]) (hl : lv_has ls 7 [(0, .ref b), (1, .ref x0), (2, .ref m0), (3, .ref o0), (4, .int 0)]) : W p l e room_1 s m #[Value.ref b] below meth c H locs 97 615458 (lw_Z below #[Value.ref b] s) (F0 m 1840 ls []) := by
  have hx := X.1
  have hb := X.2.1
  have hbA : ¬ (AL s) b := Nat.not_le.mpr hbl
  refine lv_aload_n (pc := 1840) hx hb dL_law_1840 rfl (lv_at hl 1 rfl) ?_
  refine lv_aload_n (pc := 1841) hx hb dL_law_1841 rfl (lv_at hl 0 rfl) ?_
  refine lv_iload (pc := 1842) hx hb dL_law_1842 (lv_at hl 4 rfl) ?_
  refine lv_iconst (v := 1) (pc := 1844) hx hb dL_law_1844 (by decide) ?_
  refine lv_iadd (pc := 1845) hx hb dL_law_1845 ?_
  refine lv_topi (fun v1 ev1 => ?_)
  obtain rfl : v1 = 1 := ev1.trans (by decide +kernel)
  refine va_sld (pc := 1846) hx hb hX hbl hbA hW.2.2 (vp_in_nI (n := 1) (by decide) (by decide)) dL_law_1846 ?_
  refine c_Vi (pc := 1847) (As := [.int (xs (1 : Int32).toNatClampNeg)]) (rest := []) (wr := [(m0, .inr (12, [.int 0, .ref b1, .int 0, .int 0, .int 0, .int 0, .ref b6, .ref b7, .ref b8, .ref b9, .ref b10, .ref b11, .ref b12, .ref b13, .ref b14, .ref b15, .ref b16, .ref b17, .int 0, .int (-1), .int (-1), .ref b21, .ref b22, .ref b23, .ref b24, .ref b25, .ref b26, .int 0, .ref b28, .ref b29, .ref b30, .ref b31, .ref b32, .ref b33, .ref b34, .ref b35, .ref b36, .int 0, .int 0, .int 0, .int 0, .int 0, .int 0, .int 0, .int 0, .int 0, .ref b46, .ref b47, .ref b48, .ref b49, .ref b50, .ref b51, .ref b52, .ref b53, .ref b54, .ref b55, .ref b56, .ref b57, .ref b58, .ref b59, .ref b60, .ref b61, .ref b62, .ref b63]))]) X hW 0 ciX11 rfl (C_X11_count l g x0 a0 a1 a2 a3 a4 a5 a6 a7 a8 a9 a10 tq (xs (1 : Int32).toNatClampNeg)) vL_180 [0, 1] [2] rfl rfl rfl rfl rfl rfl hl.1 rfl (Nat.le_of_ble_eq_true rfl) ⟨Nat.le_of_ble_eq_true rfl, Nat.le_of_ble_eq_true rfl⟩ ⟨Nat.le_of_ble_eq_true rfl, Nat.le_of_ble_eq_true rfl⟩ dL_law_1847 (fun r2 u9 H locs hq hW => ?_)
  obtain ⟨rfl, rfl⟩ := hq
  have hW : WD g (AL s) s _ _ [(m0, .inr (12, [.int 0, .ref b1, .int 0, .int 0, .int 0, .int 0, .ref b6, .ref b7, .ref b8, .ref b9, .ref b10, .ref b11, .ref b12, .ref b13, .ref b14, .ref b15, .ref b16, .ref b17, .int 0, .int (-1), .int (-1), .ref b21, .ref b22, .ref b23, .ref b24, .ref b25, .ref b26, .int 0, .ref b28, .ref b29, .ref b30, .ref b31, .ref b32, .ref b33, .ref b34, .ref b35, .ref b36, .int 0, .int 0, .int 0, .int 0, .int 0, .int 0, .int 0, .int 0, .int 0, .ref b46, .ref b47, .ref b48, .ref b49, .ref b50, .ref b51, .ref b52, .ref b53, .ref b54, .ref b55, .ref b56, .ref b57, .ref b58, .ref b59, .ref b60, .ref b61, .ref b62, .ref b63]))] := hW
  refine lv_aload_n (pc := 1850) hx hb dL_law_1850 rfl (lv_at hl 2 rfl) ?_
  refine lv_aload_n (pc := 1851) hx hb dL_law_1851 rfl (lv_at hl 0 rfl) ?_
  refine lv_iload (pc := 1852) hx hb dL_law_1852 (lv_at hl 4 rfl) ?_
  refine lv_iconst (v := 1) (pc := 1854) hx hb dL_law_1854 (by decide) ?_
  refine lv_iadd (pc := 1855) hx hb dL_law_1855 ?_
  refine lv_topi (fun v3 ev3 => ?_)
  obtain rfl : v3 = 1 := ev3.trans (by decide +kernel)
  refine va_sld (pc := 1856) hx hb hX hbl hbA hW.2.2 (vp_in_nI (n := 1) (by decide) (by decide)) dL_law_1856 ?_
  refine c_Vi (pc := 1857) (As := [.int (xs (1 : Int32).toNatClampNeg)]) (rest := [.int (cv (xs (1 : Int32).toNatClampNeg))]) (wr := []) X hW 0 ciX12 rfl (C_X12_count l g m0 b1 b6 b7 b8 b9 b10 b11 b12 b13 b14 b15 b16 b17 b21 b22 b23 b24 b25 b26 b28 b29 b30 b31 b32 b33 b34 b35 b36 b46 b47 b48 b49 b50 b51 b52 b53 b54 b55 b56 b57 b58 b59 b60 b61 b62 b63 (xs (1 : Int32).toNatClampNeg)) vL_183 [0] [] rfl rfl rfl rfl rfl rfl hl.1 rfl (Nat.le_of_ble_eq_true rfl) ⟨Nat.le_of_ble_eq_true rfl, Nat.le_of_ble_eq_true rfl⟩ ⟨Nat.le_of_ble_eq_true rfl, Nat.le_of_ble_eq_true rfl⟩ dL_law_1857 (fun r4 u9 H locs hq hW => ?_)
  obtain ⟨rfl, rfl⟩ := hq
  have hW : WD g (AL s) s _ _ [] := hW
  refine lv_icmp_eq (tgt := 1865) (pc := 1860) hx hb dL_law_1860 rfl (fun c5 => ?_) (fun c5 => absurd (rfl : cv (xs (1 : Int32).toNatClampNeg) = cv (xs (1 : Int32).toNatClampNeg)) c5)
  exact law_end X hr hX hbl ⟨Nat.le_of_ble_eq_true rfl, Nat.le_of_ble_eq_true rfl⟩ (hW.pick [] rfl rfl) (lv_sub hl [0, 4] rfl)

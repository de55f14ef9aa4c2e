/-! cards that are kept -/
theorem dX12_kept_13 : decode cX12_kept 13 = .ok (.aload_n 0, 1) := DX12_kept _ _ _ rfl
theorem dX12_kept_14 : decode cX12_kept 14 = .ok (.iload_n 1, 1) := DX12_kept _ _ _ rfl
theorem dX12_kept_15 : decode cX12_kept 15 = .ok (.iload_n 2, 1) := DX12_kept _ _ _ rfl
theorem dX12_kept_16 : decode cX12_kept 16 = .ok (.invokevirtual 237, 3) := DX12_kept _ _ _ rfl
theorem dX12_kept_19 : decode cX12_kept 19 = .ok (.ifCond .ne 5, 3) := DX12_kept _ _ _ rfl
theorem dX12_kept_24 : decode cX12_kept 24 = .ok (.iconst 1, 1) := DX12_kept _ _ _ rfl
theorem dX12_kept_25 : decode cX12_kept 25 = .ok (.iload_n 2, 1) := DX12_kept _ _ _ rfl
theorem dX12_kept_26 : decode cX12_kept 26 = .ok (.ishl, 1) := DX12_kept _ _ _ rfl
theorem dX12_kept_27 : decode cX12_kept 27 = .ok (.istore_n 3, 1) := DX12_kept _ _ _ rfl
theorem dX12_kept_28 : decode cX12_kept 28 = .ok (.iconst 0, 1) := DX12_kept _ _ _ rfl
theorem dX12_kept_29 : decode cX12_kept 29 = .ok (.istore 4, 2) := DX12_kept _ _ _ rfl
theorem dX12_kept_31 : decode cX12_kept 31 = .ok (.iconst 0, 1) := DX12_kept _ _ _ rfl
theorem dX12_kept_32 : decode cX12_kept 32 = .ok (.istore 5, 2) := DX12_kept _ _ _ rfl
theorem dX12_kept_34 : decode cX12_kept 34 = .ok (.iload 5, 2) := DX12_kept _ _ _ rfl
theorem dX12_kept_36 : decode cX12_kept 36 = .ok (.bipush 7, 2) := DX12_kept _ _ _ rfl
theorem dX12_kept_38 : decode cX12_kept 38 = .ok (.if_icmp .ge 17, 3) := DX12_kept _ _ _ rfl
theorem dX12_kept_55 : decode cX12_kept 55 = .ok (.iconst 0, 1) := DX12_kept _ _ _ rfl
theorem dX12_kept_56 : decode cX12_kept 56 = .ok (.istore 5, 2) := DX12_kept _ _ _ rfl
theorem dX12_kept_58 : decode cX12_kept 58 = .ok (.iload 5, 2) := DX12_kept _ _ _ rfl
theorem dX12_kept_60 : decode cX12_kept 60 = .ok (.bipush 24, 2) := DX12_kept _ _ _ rfl
theorem dX12_kept_62 : decode cX12_kept 62 = .ok (.if_icmp .gt 187, 3) := DX12_kept _ _ _ rfl
theorem dX12_kept_249 : decode cX12_kept 249 = .ok (.iconst (-1), 1) := DX12_kept _ _ _ rfl
theorem dX12_kept_250 : decode cX12_kept 250 = .ok (.ireturn, 1) := DX12_kept _ _ _ rfl
theorem dX12_kept_65 : decode cX12_kept 65 = .ok (.iload 5, 2) := DX12_kept _ _ _ rfl
theorem dX12_kept_67 : decode cX12_kept 67 = .ok (.ifCond .le 164, 3) := DX12_kept _ _ _ rfl
theorem dX12_kept_231 : decode cX12_kept 231 = .ok (.iload_n 3, 1) := DX12_kept _ _ _ rfl
theorem dX12_kept_232 : decode cX12_kept 232 = .ok (.aload_n 0, 1) := DX12_kept _ _ _ rfl
theorem dX12_kept_233 : decode cX12_kept 233 = .ok (.iload_n 1, 1) := DX12_kept _ _ _ rfl
theorem dX12_kept_234 : decode cX12_kept 234 = .ok (.invokevirtual 274, 3) := DX12_kept _ _ _ rfl
theorem dX12_kept_237 : decode cX12_kept 237 = .ok (.if_icmp .ne 6, 3) := DX12_kept _ _ _ rfl
theorem dX12_kept_243 : decode cX12_kept 243 = .ok (.iinc 5 1, 3) := DX12_kept _ _ _ rfl
theorem dX12_kept_246 : decode cX12_kept 246 = .ok (.goto (-188), 3) := DX12_kept _ _ _ rfl
theorem dX12_kept_240 : decode cX12_kept 240 = .ok (.iload 5, 2) := DX12_kept _ _ _ rfl
theorem dX12_kept_242 : decode cX12_kept 242 = .ok (.ireturn, 1) := DX12_kept _ _ _ rfl
theorem dX12_kept_70 : decode cX12_kept 70 = .ok (.iconst 0, 1) := DX12_kept _ _ _ rfl
theorem dX12_kept_71 : decode cX12_kept 71 = .ok (.istore 6, 2) := DX12_kept _ _ _ rfl
theorem dX12_kept_73 : decode cX12_kept 73 = .ok (.iconst 0, 1) := DX12_kept _ _ _ rfl
theorem dX12_kept_74 : decode cX12_kept 74 = .ok (.istore 7, 2) := DX12_kept _ _ _ rfl
theorem dX12_kept_76 : decode cX12_kept 76 = .ok (.iload 7, 2) := DX12_kept _ _ _ rfl
theorem dX12_kept_78 : decode cX12_kept 78 = .ok (.aload_n 0, 1) := DX12_kept _ _ _ rfl
theorem dX12_kept_79 : decode cX12_kept 79 = .ok (.getfield 13, 3) := DX12_kept _ _ _ rfl
theorem dX12_kept_82 : decode cX12_kept 82 = .ok (.iload_n 1, 1) := DX12_kept _ _ _ rfl
theorem dX12_kept_83 : decode cX12_kept 83 = .ok (.iaload, 1) := DX12_kept _ _ _ rfl
theorem dX12_kept_84 : decode cX12_kept 84 = .ok (.if_icmp .ge 115, 3) := DX12_kept _ _ _ rfl
theorem dX12_kept_199 : decode cX12_kept 199 = .ok (.iload 6, 2) := DX12_kept _ _ _ rfl
theorem dX12_kept_201 : decode cX12_kept 201 = .ok (.iload_n 3, 1) := DX12_kept _ _ _ rfl
theorem dX12_kept_202 : decode cX12_kept 202 = .ok (.iconst (-1), 1) := DX12_kept _ _ _ rfl
theorem dX12_kept_203 : decode cX12_kept 203 = .ok (.ixor, 1) := DX12_kept _ _ _ rfl
theorem dX12_kept_204 : decode cX12_kept 204 = .ok (.iand, 1) := DX12_kept _ _ _ rfl
theorem dX12_kept_205 : decode cX12_kept 205 = .ok (.aload_n 0, 1) := DX12_kept _ _ _ rfl
theorem dX12_kept_206 : decode cX12_kept 206 = .ok (.getfield 20, 3) := DX12_kept _ _ _ rfl
theorem dX12_kept_209 : decode cX12_kept 209 = .ok (.iload_n 1, 1) := DX12_kept _ _ _ rfl
theorem dX12_kept_210 : decode cX12_kept 210 = .ok (.iaload, 1) := DX12_kept _ _ _ rfl
theorem dX12_kept_211 : decode cX12_kept 211 = .ok (.iconst (-1), 1) := DX12_kept _ _ _ rfl
theorem dX12_kept_212 : decode cX12_kept 212 = .ok (.ixor, 1) := DX12_kept _ _ _ rfl
theorem dX12_kept_213 : decode cX12_kept 213 = .ok (.iload 4, 2) := DX12_kept _ _ _ rfl
theorem dX12_kept_215 : decode cX12_kept 215 = .ok (.ior, 1) := DX12_kept _ _ _ rfl
theorem dX12_kept_216 : decode cX12_kept 216 = .ok (.iand, 1) := DX12_kept _ _ _ rfl
theorem dX12_kept_217 : decode cX12_kept 217 = .ok (.istore 7, 2) := DX12_kept _ _ _ rfl
theorem dX12_kept_219 : decode cX12_kept 219 = .ok (.iload 4, 2) := DX12_kept _ _ _ rfl
theorem dX12_kept_221 : decode cX12_kept 221 = .ok (.iload 6, 2) := DX12_kept _ _ _ rfl
theorem dX12_kept_223 : decode cX12_kept 223 = .ok (.ior, 1) := DX12_kept _ _ _ rfl
theorem dX12_kept_224 : decode cX12_kept 224 = .ok (.istore 4, 2) := DX12_kept _ _ _ rfl
theorem dX12_kept_226 : decode cX12_kept 226 = .ok (.iload_n 3, 1) := DX12_kept _ _ _ rfl
theorem dX12_kept_227 : decode cX12_kept 227 = .ok (.iload 7, 2) := DX12_kept _ _ _ rfl
theorem dX12_kept_229 : decode cX12_kept 229 = .ok (.ior, 1) := DX12_kept _ _ _ rfl
theorem dX12_kept_230 : decode cX12_kept 230 = .ok (.istore_n 3, 1) := DX12_kept _ _ _ rfl
theorem dX12_kept_87 : decode cX12_kept 87 = .ok (.bipush 7, 2) := DX12_kept _ _ _ rfl
theorem dX12_kept_89 : decode cX12_kept 89 = .ok (.iload_n 1, 1) := DX12_kept _ _ _ rfl
theorem dX12_kept_90 : decode cX12_kept 90 = .ok (.imul, 1) := DX12_kept _ _ _ rfl
theorem dX12_kept_91 : decode cX12_kept 91 = .ok (.iload 7, 2) := DX12_kept _ _ _ rfl
theorem dX12_kept_93 : decode cX12_kept 93 = .ok (.iadd, 1) := DX12_kept _ _ _ rfl
theorem dX12_kept_94 : decode cX12_kept 94 = .ok (.istore 8, 2) := DX12_kept _ _ _ rfl
theorem dX12_kept_96 : decode cX12_kept 96 = .ok (.iload_n 3, 1) := DX12_kept _ _ _ rfl
theorem dX12_kept_97 : decode cX12_kept 97 = .ok (.iload 7, 2) := DX12_kept _ _ _ rfl
theorem dX12_kept_99 : decode cX12_kept 99 = .ok (.ishr, 1) := DX12_kept _ _ _ rfl
theorem dX12_kept_100 : decode cX12_kept 100 = .ok (.iconst 1, 1) := DX12_kept _ _ _ rfl
theorem dX12_kept_101 : decode cX12_kept 101 = .ok (.iand, 1) := DX12_kept _ _ _ rfl
theorem dX12_kept_102 : decode cX12_kept 102 = .ok (.ifCond .eq 91, 3) := DX12_kept _ _ _ rfl
theorem dX12_kept_193 : decode cX12_kept 193 = .ok (.iinc 7 1, 3) := DX12_kept _ _ _ rfl
theorem dX12_kept_196 : decode cX12_kept 196 = .ok (.goto (-120), 3) := DX12_kept _ _ _ rfl
theorem dX12_kept_105 : decode cX12_kept 105 = .ok (.aload_n 0, 1) := DX12_kept _ _ _ rfl
theorem dX12_kept_106 : decode cX12_kept 106 = .ok (.getfield 129, 3) := DX12_kept _ _ _ rfl
theorem dX12_kept_109 : decode cX12_kept 109 = .ok (.iload 7, 2) := DX12_kept _ _ _ rfl
theorem dX12_kept_111 : decode cX12_kept 111 = .ok (.iaload, 1) := DX12_kept _ _ _ rfl
theorem dX12_kept_112 : decode cX12_kept 112 = .ok (.aload_n 0, 1) := DX12_kept _ _ _ rfl
theorem dX12_kept_113 : decode cX12_kept 113 = .ok (.getfield 126, 3) := DX12_kept _ _ _ rfl
theorem dX12_kept_116 : decode cX12_kept 116 = .ok (.iload 8, 2) := DX12_kept _ _ _ rfl
theorem dX12_kept_118 : decode cX12_kept 118 = .ok (.iaload, 1) := DX12_kept _ _ _ rfl
theorem dX12_kept_119 : decode cX12_kept 119 = .ok (.if_icmp .ne 6, 3) := DX12_kept _ _ _ rfl
theorem dX12_kept_125 : decode cX12_kept 125 = .ok (.aload_n 0, 1) := DX12_kept _ _ _ rfl
theorem dX12_kept_126 : decode cX12_kept 126 = .ok (.getfield 123, 3) := DX12_kept _ _ _ rfl
theorem dX12_kept_129 : decode cX12_kept 129 = .ok (.bipush 6, 2) := DX12_kept _ _ _ rfl
theorem dX12_kept_131 : decode cX12_kept 131 = .ok (.iload 8, 2) := DX12_kept _ _ _ rfl
theorem dX12_kept_133 : decode cX12_kept 133 = .ok (.imul, 1) := DX12_kept _ _ _ rfl
theorem dX12_kept_134 : decode cX12_kept 134 = .ok (.aload_n 0, 1) := DX12_kept _ _ _ rfl
theorem dX12_kept_135 : decode cX12_kept 135 = .ok (.getfield 129, 3) := DX12_kept _ _ _ rfl
theorem dX12_kept_138 : decode cX12_kept 138 = .ok (.iload 7, 2) := DX12_kept _ _ _ rfl
theorem dX12_kept_140 : decode cX12_kept 140 = .ok (.iaload, 1) := DX12_kept _ _ _ rfl
theorem dX12_kept_141 : decode cX12_kept 141 = .ok (.iadd, 1) := DX12_kept _ _ _ rfl
theorem dX12_kept_142 : decode cX12_kept 142 = .ok (.iaload, 1) := DX12_kept _ _ _ rfl
theorem dX12_kept_143 : decode cX12_kept 143 = .ok (.istore 9, 2) := DX12_kept _ _ _ rfl
theorem dX12_kept_145 : decode cX12_kept 145 = .ok (.iload 6, 2) := DX12_kept _ _ _ rfl
theorem dX12_kept_147 : decode cX12_kept 147 = .ok (.iload 9, 2) := DX12_kept _ _ _ rfl
theorem dX12_kept_149 : decode cX12_kept 149 = .ok (.ishr, 1) := DX12_kept _ _ _ rfl
theorem dX12_kept_150 : decode cX12_kept 150 = .ok (.iconst 1, 1) := DX12_kept _ _ _ rfl
theorem dX12_kept_151 : decode cX12_kept 151 = .ok (.iand, 1) := DX12_kept _ _ _ rfl
theorem dX12_kept_152 : decode cX12_kept 152 = .ok (.iconst 1, 1) := DX12_kept _ _ _ rfl
theorem dX12_kept_153 : decode cX12_kept 153 = .ok (.if_icmp .eq 40, 3) := DX12_kept _ _ _ rfl
theorem dX12_kept_156 : decode cX12_kept 156 = .ok (.aload_n 0, 1) := DX12_kept _ _ _ rfl
theorem dX12_kept_157 : decode cX12_kept 157 = .ok (.iload_n 1, 1) := DX12_kept _ _ _ rfl
theorem dX12_kept_158 : decode cX12_kept 158 = .ok (.iload 7, 2) := DX12_kept _ _ _ rfl
theorem dX12_kept_160 : decode cX12_kept 160 = .ok (.iload 9, 2) := DX12_kept _ _ _ rfl
theorem dX12_kept_162 : decode cX12_kept 162 = .ok (.iload 5, 2) := DX12_kept _ _ _ rfl
theorem dX12_kept_164 : decode cX12_kept 164 = .ok (.invokevirtual 240, 3) := DX12_kept _ _ _ rfl
theorem dX12_kept_167 : decode cX12_kept 167 = .ok (.ifCond .ne 6, 3) := DX12_kept _ _ _ rfl
theorem dX12_kept_173 : decode cX12_kept 173 = .ok (.iload 6, 2) := DX12_kept _ _ _ rfl
theorem dX12_kept_175 : decode cX12_kept 175 = .ok (.iconst 1, 1) := DX12_kept _ _ _ rfl
theorem dX12_kept_176 : decode cX12_kept 176 = .ok (.iload 9, 2) := DX12_kept _ _ _ rfl
theorem dX12_kept_178 : decode cX12_kept 178 = .ok (.ishl, 1) := DX12_kept _ _ _ rfl
theorem dX12_kept_179 : decode cX12_kept 179 = .ok (.ior, 1) := DX12_kept _ _ _ rfl
theorem dX12_kept_180 : decode cX12_kept 180 = .ok (.istore 6, 2) := DX12_kept _ _ _ rfl
theorem dX12_kept_182 : decode cX12_kept 182 = .ok (.aload_n 0, 1) := DX12_kept _ _ _ rfl
theorem dX12_kept_183 : decode cX12_kept 183 = .ok (.getfield 129, 3) := DX12_kept _ _ _ rfl
theorem dX12_kept_186 : decode cX12_kept 186 = .ok (.iload 7, 2) := DX12_kept _ _ _ rfl
theorem dX12_kept_188 : decode cX12_kept 188 = .ok (.dup2, 1) := DX12_kept _ _ _ rfl
theorem dX12_kept_189 : decode cX12_kept 189 = .ok (.iaload, 1) := DX12_kept _ _ _ rfl
theorem dX12_kept_190 : decode cX12_kept 190 = .ok (.iconst 1, 1) := DX12_kept _ _ _ rfl
theorem dX12_kept_191 : decode cX12_kept 191 = .ok (.iadd, 1) := DX12_kept _ _ _ rfl
theorem dX12_kept_192 : decode cX12_kept 192 = .ok (.iastore, 1) := DX12_kept _ _ _ rfl
theorem dX12_kept_170 : decode cX12_kept 170 = .ok (.goto 23, 3) := DX12_kept _ _ _ rfl
theorem dX12_kept_122 : decode cX12_kept 122 = .ok (.goto 71, 3) := DX12_kept _ _ _ rfl
theorem dX12_kept_41 : decode cX12_kept 41 = .ok (.aload_n 0, 1) := DX12_kept _ _ _ rfl
theorem dX12_kept_42 : decode cX12_kept 42 = .ok (.getfield 129, 3) := DX12_kept _ _ _ rfl
theorem dX12_kept_45 : decode cX12_kept 45 = .ok (.iload 5, 2) := DX12_kept _ _ _ rfl
theorem dX12_kept_47 : decode cX12_kept 47 = .ok (.iconst 0, 1) := DX12_kept _ _ _ rfl
theorem dX12_kept_48 : decode cX12_kept 48 = .ok (.iastore, 1) := DX12_kept _ _ _ rfl
theorem dX12_kept_49 : decode cX12_kept 49 = .ok (.iinc 5 1, 3) := DX12_kept _ _ _ rfl
theorem dX12_kept_52 : decode cX12_kept 52 = .ok (.goto (-18), 3) := DX12_kept _ _ _ rfl
noncomputable def pX12_kept_h0 : SPEC := (6, [vr 60, itop, itop], vj (-1) 24, [], [(60, 0), (90, 0)], [])
set_option maxHeartbeats 4000000 in
set_option maxRecDepth 100000 in
theorem SX12_kept_h0 (l : Launch) (g : GG) : SM l g TS0 yX12_kept cX12_kept 10 (some .int) pX12_kept_h0 := by
  refine SM_hand (own := RX12) rfl (by decide) (by decide) ?_
  intro p e s m below meth c Γ As ls Q hU hV hQ X hr hI hPF hl
  have hx := X.1
  have hb := X.2.1
  obtain ⟨v1, v2, v3, rfl, w1, w2, w3⟩ := VR3 (show VR g Γ [_, _, _] As from hV)
  obtain ⟨q1, rfl, t_q1, z_q1⟩ := avi_ref rfl w1
  have t_q1 : Γ q1 = 60 := t_q1
  obtain ⟨x2, rfl, -⟩ := avi_int rfl w2
  obtain ⟨x3, rfl, -⟩ := avi_int rfl w3
  have hl : lv_has ls 10 [(0, .ref q1), (1, .int x2), (2, .int x3)] := hl
  refine lv_aload_n (pc := 0) hx hb dX12_kept_0 rfl (lv_at hl 0 rfl) ?_
  refine lv_iconst (v := 0) (pc := 1) hx hb dX12_kept_1 (by decide) ?_
  refine h_put (pc := 2) (b := vi 0 1) X hI (hFX12 160 _ rfl) z_q1 ((congrArg TS0.1 t_q1).trans rfl) rfl rfl (avi_nI (lo := 0) (hi := 1) (k := 0) (by omega) (by omega) (by decide)) (by decide) (by decide) (by rw [t_q1]; decide) dX12_kept_2 (fun H locs hI hUn hEp => ?_)
  rw [t_q1] at hUn
  refine lv_aload_n (pc := 5) hx hb dX12_kept_5 rfl (lv_at hl 0 rfl) ?_
  refine lv_iload_n (pc := 6) hx hb dX12_kept_6 rfl (lv_at hl 1 rfl) ?_
  refine h_call (pc := 7) (dd := 6) (avs := [.ref q1, .int x2]) (rs := []) X hI (COV (SX12_isValley_0 l g) (by decide) vX12_221 rfl) ⟨Nat.le_refl _, Nat.le_refl _, Nat.le_refl _, Nat.le_refl _⟩ (by decide) hl.1 rfl rfl hU no_pf ⟨av_r t_q1 z_q1, avi_top _, trivial⟩ (fun _ => ⟨_, _, _, rfl, z_q1, (congrArg TS0.1 t_q1).trans rfl⟩) (md_sub (by decide)) (Nat.le_of_ble_eq_true rfl) dX12_kept_7 (fun vr H locs hro hI hUn => ?_)
  obtain ⟨vhv4, rfl, hv4, imhv4⟩ := RO_some rfl hro
  obtain ⟨x6, rfl, -⟩ := avi_int rfl hv4
  obtain ⟨k5, rfl, lo_k5, hi_k5⟩ := avi_nn (lo := 0) (hi := 1) hv4
  refine lv_if_eq (tgt := 22) (pc := 10) hx hb dX12_kept_10 rfl (fun c9 => ?_) (fun c9 => ?_)
  · refine lv_iconst (v := (-1)) (pc := 22) hx hb dX12_kept_22 (by decide) ?_
    exact h_ret (pc := 23) X hI hQ hr (rk := 0) (Or.inl ⟨rfl, rfl⟩) ((⟨rfl, by decide, by decide⟩ : avi g Γ (vj (-1) 24) (.int (-1)))) (RO_of ((⟨rfl, by decide, by decide⟩ : avi g Γ (vj (-1) 24) (.int (-1)))) rfl) (Or.inl ⟨rfl, rfl, rfl⟩) dX12_kept_23
  · have b9 := bool_1 (by omega) c9
    obtain ⟨v9, e_v9, lo_v9, hi_v9⟩ := im_at (j := 1) (lo := 0) (hi := 9) imhv4 (show (1, 1, 1, vi 0 9) ∈ _ by first | exact List.mem_cons_self | exact List.mem_cons_of_mem _ List.mem_cons_self) rfl rfl rfl rfl rfl b9
    subst e_v9
    refine lv_aload_n (pc := 13) hx hb dX12_kept_13 rfl (lv_at hl 0 rfl) ?_
    refine lv_iload_n (pc := 14) hx hb dX12_kept_14 rfl (lv_at hl 1 rfl) ?_
    refine lv_iload_n (pc := 15) hx hb dX12_kept_15 rfl (lv_at hl 2 rfl) ?_
    refine h_call (pc := 16) (dd := 6) (avs := [.ref q1, .int (nI v9), .int x3]) (rs := []) X hI (COV (SX12_isPerson_0 l g) (by decide) vX12_237 rfl) ⟨Nat.le_refl _, Nat.le_refl _, Nat.le_refl _, Nat.le_refl _⟩ (by decide) hl.1 rfl rfl hU no_pf ⟨av_r t_q1 z_q1, avi_nI (lo := 0) (hi := 9) (k := v9) (by omega) (by omega) (by decide), avi_top _, trivial⟩ (fun _ => ⟨_, _, _, rfl, z_q1, (congrArg TS0.1 t_q1).trans rfl⟩) (md_sub (by decide)) (Nat.le_of_ble_eq_true rfl) dX12_kept_16 (fun vr H locs hro hI hUn => ?_)
    obtain ⟨vhv7, rfl, hv7, imhv7⟩ := RO_some rfl hro
    obtain ⟨x9, rfl, -⟩ := avi_int rfl hv7
    obtain ⟨k8, rfl, lo_k8, hi_k8⟩ := avi_nn (lo := 0) (hi := 1) hv7
    refine lv_if_ne (tgt := 24) (pc := 19) hx hb dX12_kept_19 rfl (fun c9 => ?_) (fun c9 => ?_)
    · have b9 := bool_1 (by omega) c9
      obtain ⟨p9, e_p9, lo_p9, hi_p9⟩ := im_at (j := 2) (lo := 0) (hi := 6) imhv7 (show (1, 1, 2, vi 0 6) ∈ _ by first | exact List.mem_cons_self | exact List.mem_cons_of_mem _ List.mem_cons_self) rfl rfl rfl rfl rfl b9
      subst e_p9
      obtain ⟨v_gq, hv_gq, GG9⟩ := h_fe (k := 54) (r := (RX12, TX12, 64)) hI.1 z_q1 ((congrArg TS0.1 t_q1).trans rfl) rfl rfl (by decide)
      obtain ⟨gq, rfl, t_gq, z_gq⟩ := avi_ref rfl hv_gq
      have t_gq : Γ gq = 90 := t_gq
      obtain ⟨v_lq, hv_lq, GL9⟩ := h_fe (k := 53) (r := (RX12, TX12, 64)) hI.1 z_q1 ((congrArg TS0.1 t_q1).trans rfl) rfl rfl (by decide)
      obtain ⟨lq, rfl, t_lq, z_lq⟩ := avi_ref rfl hv_lq
      have t_lq : Γ lq = 89 := t_lq
      obtain ⟨f0, AG, -⟩ := h_ints (Or.inr (Or.inl rfl)) hI.1 z_gq ((congrArg TS0.1 t_gq).trans rfl)
      obtain ⟨cl9, AL, bl9⟩ := h_ints (Or.inr (Or.inl rfl)) hI.1 z_lq ((congrArg TS0.1 t_lq).trans rfl)
      refine lv_iconst (v := 1) (pc := 24) hx hb dX12_kept_24 (by decide) ?_
      refine lv_iload_n (pc := 25) hx hb dX12_kept_25 rfl (lv_at hl 2 rfl) ?_
      refine lv_ishl (pc := 26) hx hb dX12_kept_26 ?_
      refine lv_istore_n (lv' := [(3, .int (1 <<< ((nI p9) &&& 31))), (0, .ref q1), (1, .int (nI v9)), (2, .int (nI p9))]) (pc := 27) hx hb dX12_kept_27 rfl hl (by decide) rfl (fun ls hl => ?_)
      refine lv_iconst (v := 0) (pc := 28) hx hb dX12_kept_28 (by decide) ?_
      refine lv_istore (lv' := [(4, .int 0), (3, .int (1 <<< ((nI p9) &&& 31))), (0, .ref q1), (1, .int (nI v9)), (2, .int (nI p9))]) (pc := 29) hx hb dX12_kept_29 hl (by decide) rfl (fun ls hl => ?_)
      refine lv_iconst (v := 0) (pc := 31) hx hb dX12_kept_31 (by decide) ?_
      refine lv_istore (lv' := [(5, .int 0), (4, .int 0), (3, .int (1 <<< ((nI p9) &&& 31))), (0, .ref q1), (1, .int (nI v9)), (2, .int (nI p9))]) (pc := 32) hx hb dX12_kept_32 hl (by decide) rfl (fun ls hl => ?_)
      have loopA : ∀ (n : Nat) (i : Nat) (f : Nat → Int32), (i + n = 8) → (i ≤ 7) → (∀ o : Nat, o < i → f o = nI 0) → ∀ (H : Heap) (locs : List Loc) (ls : Array Slot), HI g TS0 Γ pX12_kept_h0.2.2.2.2.1 s H locs → (FE g q1 12 54 H (.ref gq)) → (FE g q1 12 53 H (.ref lq)) → (AT g 1 77 lq cl9 H) → (AT g 1 7 gq f H) → lv_has ls 10 [(0, .ref q1), (1, .int (nI v9)), (2, .int (nI p9)), (3, .int (1 <<< ((nI p9) &&& 31))), (4, .int 0), (5, .int (nI i))] → W p l e (RM 6 0 0) s m [Value.ref q1, Value.int (nI v9), Value.int (nI p9)].toArray below meth c H locs 0 0 Q (F0 m 34 ls []) := by
        intro n
        induction n with
        | zero =>
          intro i f h1 h2 zz H locs ls hI GG9 GL9 AL AG hl
          omega
        | succ n ihA =>
          intro i f h1 h2 zz H locs ls hI GG9 GL9 AL AG hl
          refine lv_iload (pc := 34) hx hb dX12_kept_34 (lv_at hl 5 rfl) ?_
          refine lv_bipush (v := 7) (pc := 36) hx hb dX12_kept_36 (by decide) ?_
          refine lv_icmp_ge (tgt := 55) (pc := 38) hx hb dX12_kept_38 rfl (fun c9 => ?_) (fun c9 => ?_)
          · have i7 : 7 ≤ i := (nI_leI (by omega) (by omega)).mp c9
            have gi : ∀ o : Nat, o < 7 → ∃ n m : Nat, f o = nI n ∧ cl9 (7 * v9 + o) = nI m ∧ n ≤ m ∧ m ≤ 6 := fun o ho => by
              obtain ⟨m, em, lm, um⟩ := avi_nn (lo := 0) (hi := 6) (bl9 (7 * v9 + o) (by omega))
              exact ⟨0, m, zz o (by omega), em, by omega, um⟩
            refine lv_iconst (v := 0) (pc := 55) hx hb dX12_kept_55 (by decide) ?_
            refine lv_istore (lv' := [(5, .int 0), (0, .ref q1), (1, .int (nI v9)), (2, .int (nI p9)), (3, .int (1 <<< ((nI p9) &&& 31))), (4, .int 0)]) (pc := 56) hx hb dX12_kept_56 hl (by decide) rfl (fun ls hl => ?_)
            have loopB : ∀ (n : Nat) (kn : Int32) (td : Int32) (hh : Nat) (f : Nat → Int32), (hh + n = 26) → (hh ≤ 25) → (∀ o : Nat, o < 7 → ∃ n m : Nat, f o = nI n ∧ cl9 (7 * v9 + o) = nI m ∧ n ≤ m ∧ m ≤ 6) → ∀ (H : Heap) (locs : List Loc) (ls : Array Slot), HI g TS0 Γ pX12_kept_h0.2.2.2.2.1 s H locs → (FE g q1 12 54 H (.ref gq)) → (FE g q1 12 53 H (.ref lq)) → (AT g 1 77 lq cl9 H) → (AT g 1 7 gq f H) → lv_has ls 10 [(0, .ref q1), (1, .int (nI v9)), (3, .int kn), (4, .int td), (5, .int (nI hh))] → W p l e (RM 6 0 0) s m [Value.ref q1, Value.int (nI v9), Value.int (nI p9)].toArray below meth c H locs 0 0 Q (F0 m 58 ls []) := by
              intro n
              induction n with
              | zero =>
                intro kn td hh f h1 h2 gi H locs ls hI GG9 GL9 AL AG hl
                omega
              | succ n ihB =>
                intro kn td hh f h1 h2 gi H locs ls hI GG9 GL9 AL AG hl
                refine lv_iload (pc := 58) hx hb dX12_kept_58 (lv_at hl 4 rfl) ?_
                refine lv_bipush (v := 24) (pc := 60) hx hb dX12_kept_60 (by decide) ?_
                refine lv_icmp_gt (tgt := 249) (pc := 62) hx hb dX12_kept_62 rfl (fun c9 => ?_) (fun c9 => ?_)
                · refine lv_iconst (v := (-1)) (pc := 249) hx hb dX12_kept_249 (by decide) ?_
                  exact h_ret (pc := 250) X hI hQ hr (rk := 0) (Or.inl ⟨rfl, rfl⟩) ((⟨rfl, by decide, by decide⟩ : avi g Γ (vj (-1) 24) (.int (-1)))) (RO_of ((⟨rfl, by decide, by decide⟩ : avi g Γ (vj (-1) 24) (.int (-1)))) rfl) (Or.inl ⟨rfl, rfl, rfl⟩) dX12_kept_250
                · have i9 : hh ≤ 24 := (nI_leI (by omega) (by omega)).mp (Int32.not_lt.mp c9)
                  refine lv_iload (pc := 65) hx hb dX12_kept_65 (lv_at hl 4 rfl) ?_
                  refine lv_if_le (tgt := 231) (pc := 67) hx hb dX12_kept_67 rfl (fun c9 => ?_) (fun c9 => ?_)
                  · refine lv_iload_n (pc := 231) hx hb dX12_kept_231 rfl (lv_at hl 2 rfl) ?_
                    refine lv_aload_n (pc := 232) hx hb dX12_kept_232 rfl (lv_at hl 0 rfl) ?_
                    refine lv_iload_n (pc := 233) hx hb dX12_kept_233 rfl (lv_at hl 1 rfl) ?_
                    refine h_call (pc := 234) (dd := 6) (avs := [.ref q1, .int (nI v9)]) (rs := [.int kn]) X hI (COV (SX12_everybody_0 l g) (by decide) vX12_274 rfl) ⟨Nat.le_refl _, Nat.le_refl _, Nat.le_refl _, Nat.le_refl _⟩ (by decide) hl.1 rfl rfl hU no_pf ⟨av_r t_q1 z_q1, avi_nI (lo := 0) (hi := 9) (k := v9) (by omega) (by omega) (by decide), trivial⟩ (fun _ => ⟨_, _, _, rfl, z_q1, (congrArg TS0.1 t_q1).trans rfl⟩) (md_sub (by decide)) (Nat.le_of_ble_eq_true rfl) dX12_kept_234 (fun vr H locs hro hI hUn => ?_)
                    have GG9 := hUn.fld t_q1 (by decide) rfl (by decide) GG9
                    have GL9 := hUn.fld t_q1 (by decide) rfl (by decide) GL9
                    have AL := AL.kept (hUn.arr t_lq (by decide) rfl (by decide))
                    have AG := AG.kept (hUn.arr t_gq (by decide) rfl (by decide))
                    obtain ⟨vhv10, rfl, hv10, imhv10⟩ := RO_some rfl hro
                    obtain ⟨x12, rfl, -⟩ := avi_int rfl hv10
                    obtain ⟨k11, rfl, lo_k11, hi_k11⟩ := avi_nn (lo := 0) (hi := 127) hv10
                    refine lv_icmp_ne (tgt := 243) (pc := 237) hx hb dX12_kept_237 rfl (fun c13 => ?_) (fun c13 => ?_)
                    · refine lv_iinc (v := nI (hh + 1)) (lv' := [(5, .int (nI (hh + 1))), (0, .ref q1), (1, .int (nI v9)), (3, .int kn), (4, .int td)]) (pc := 243) hx hb dX12_kept_243 hl (k := 4) rfl ((nI_succ hh).symm) (by decide) rfl (fun ls hl => ?_)
                      refine lv_goto (tgt := 58) (pc := 246) hx hb dX12_kept_246 rfl ?_
                      exact ihB kn td (hh + 1) f (by omega) (by omega) gi _ _ _ hI GG9 GL9 AL AG (lv_sub hl [1, 2, 3, 4, 0] rfl)
                    · refine lv_iload (pc := 240) hx hb dX12_kept_240 (lv_at hl 4 rfl) ?_
                      exact h_ret (pc := 242) X hI hQ hr (rk := 0) (Or.inl ⟨rfl, rfl⟩) ((avle_ok (a := vi 0 24) (by decide) (avi_nI (lo := 0) (hi := 24) (k := hh) (by omega) (by omega) (by decide)) : avi g Γ (vj (-1) 24) (.int (nI hh)))) (RO_of ((avle_ok (a := vi 0 24) (by decide) (avi_nI (lo := 0) (hi := 24) (k := hh) (by omega) (by omega) (by decide)) : avi g Γ (vj (-1) 24) (.int (nI hh)))) rfl) (Or.inl ⟨rfl, rfl, rfl⟩) dX12_kept_242
                  · refine lv_iconst (v := 0) (pc := 70) hx hb dX12_kept_70 (by decide) ?_
                    refine lv_istore (lv' := [(6, .int 0), (0, .ref q1), (1, .int (nI v9)), (3, .int kn), (4, .int td), (5, .int (nI hh))]) (pc := 71) hx hb dX12_kept_71 hl (by decide) rfl (fun ls hl => ?_)
                    refine lv_iconst (v := 0) (pc := 73) hx hb dX12_kept_73 (by decide) ?_
                    refine lv_istore (lv' := [(7, .int 0), (6, .int 0), (0, .ref q1), (1, .int (nI v9)), (3, .int kn), (4, .int td), (5, .int (nI hh))]) (pc := 74) hx hb dX12_kept_74 hl (by decide) rfl (fun ls hl => ?_)
                    have loopC : ∀ (mm : Nat) (cd : Int32) (o : Nat) (f : Nat → Int32), (o + mm = 8) → (o ≤ 7) → (∀ o : Nat, o < 7 → ∃ n m : Nat, f o = nI n ∧ cl9 (7 * v9 + o) = nI m ∧ n ≤ m ∧ m ≤ 6) → ∀ (H : Heap) (locs : List Loc) (ls : Array Slot), HI g TS0 Γ pX12_kept_h0.2.2.2.2.1 s H locs → (FE g q1 12 54 H (.ref gq)) → (FE g q1 12 53 H (.ref lq)) → (AT g 1 77 lq cl9 H) → (AT g 1 7 gq f H) → lv_has ls 10 [(0, .ref q1), (1, .int (nI v9)), (3, .int kn), (4, .int td), (5, .int (nI hh)), (6, .int cd), (7, .int (nI o))] → W p l e (RM 6 0 0) s m [Value.ref q1, Value.int (nI v9), Value.int (nI p9)].toArray below meth c H locs 0 0 Q (F0 m 76 ls []) := by
                      intro mm
                      induction mm with
                      | zero =>
                        intro cd o f h3 h4 gi H locs ls hI GG9 GL9 AL AG hl
                        omega
                      | succ mm ihC =>
                        intro cd o f h3 h4 gi H locs ls hI GG9 GL9 AL AG hl
                        refine lv_iload (pc := 76) hx hb dX12_kept_76 (lv_at hl 6 rfl) ?_
                        refine lv_aload_n (pc := 78) hx hb dX12_kept_78 rfl (lv_at hl 0 rfl) ?_
                        refine h_get (pc := 79) X hI.1 (hFX12 13 _ rfl) z_q1 ((congrArg TS0.1 t_q1).trans rfl) rfl dX12_kept_79 (fun vhv14 hv14 hEhv14 => ?_)
                        obtain ⟨q15, rfl, t_q15, z_q15⟩ := avi_ref rfl hv14
                        have t_q15 : Γ q15 = 62 := t_q15
                        refine lv_iload_n (pc := 82) hx hb dX12_kept_82 rfl (lv_at hl 1 rfl) ?_
                        refine h_iald (pc := 83) X hI.1 z_q15 ((congrArg TS0.1 t_q15).trans rfl) (avi_nI (lo := 0) (hi := 10) (k := v9) (Nat.zero_le _) (by omega) (by decide)) (by decide) (by decide) dX12_kept_83 (fun vhv16 hv16 hEhv16 => ?_)
                        obtain ⟨x18, rfl, -⟩ := avi_int rfl hv16
                        obtain ⟨k17, rfl, lo_k17, hi_k17⟩ := avi_nn (lo := 0) (hi := 7) hv16
                        refine lv_icmp_ge (tgt := 199) (pc := 84) hx hb dX12_kept_84 rfl (fun c9 => ?_) (fun c9 => ?_)
                        · refine lv_iload (pc := 199) hx hb dX12_kept_199 (lv_at hl 5 rfl) ?_
                          refine lv_iload_n (pc := 201) hx hb dX12_kept_201 rfl (lv_at hl 2 rfl) ?_
                          refine lv_iconst (v := (-1)) (pc := 202) hx hb dX12_kept_202 (by decide) ?_
                          refine lv_ixor (pc := 203) hx hb dX12_kept_203 ?_
                          refine lv_iand (pc := 204) hx hb dX12_kept_204 ?_
                          refine lv_aload_n (pc := 205) hx hb dX12_kept_205 rfl (lv_at hl 0 rfl) ?_
                          refine h_get (pc := 206) X hI.1 (hFX12 20 _ rfl) z_q1 ((congrArg TS0.1 t_q1).trans rfl) rfl dX12_kept_206 (fun vhv19 hv19 hEhv19 => ?_)
                          obtain ⟨q20, rfl, t_q20, z_q20⟩ := avi_ref rfl hv19
                          have t_q20 : Γ q20 = 64 := t_q20
                          refine lv_iload_n (pc := 209) hx hb dX12_kept_209 rfl (lv_at hl 1 rfl) ?_
                          refine h_iald (pc := 210) X hI.1 z_q20 ((congrArg TS0.1 t_q20).trans rfl) (avi_nI (lo := 0) (hi := 10) (k := v9) (Nat.zero_le _) (by omega) (by decide)) (by decide) (by decide) dX12_kept_210 (fun vhv21 hv21 hEhv21 => ?_)
                          obtain ⟨x23, rfl, -⟩ := avi_int rfl hv21
                          obtain ⟨k22, rfl, lo_k22, hi_k22⟩ := avi_nn (lo := 0) (hi := 127) hv21
                          refine lv_iconst (v := (-1)) (pc := 211) hx hb dX12_kept_211 (by decide) ?_
                          refine lv_ixor (pc := 212) hx hb dX12_kept_212 ?_
                          refine lv_iload (pc := 213) hx hb dX12_kept_213 (lv_at hl 3 rfl) ?_
                          refine lv_ior (pc := 215) hx hb dX12_kept_215 ?_
                          refine lv_iand (pc := 216) hx hb dX12_kept_216 ?_
                          refine lv_istore (lv' := [(7, .int ((cd &&& (kn ^^^ (-1))) &&& (((nI k22) ^^^ (-1)) ||| td))), (0, .ref q1), (1, .int (nI v9)), (3, .int kn), (4, .int td), (5, .int (nI hh)), (6, .int cd)]) (pc := 217) hx hb dX12_kept_217 hl (by decide) rfl (fun ls hl => ?_)
                          refine lv_iload (pc := 219) hx hb dX12_kept_219 (lv_at hl 4 rfl) ?_
                          refine lv_iload (pc := 221) hx hb dX12_kept_221 (lv_at hl 6 rfl) ?_
                          refine lv_ior (pc := 223) hx hb dX12_kept_223 ?_
                          refine lv_istore (lv' := [(4, .int (td ||| cd)), (7, .int ((cd &&& (kn ^^^ (-1))) &&& (((nI k22) ^^^ (-1)) ||| td))), (0, .ref q1), (1, .int (nI v9)), (3, .int kn), (5, .int (nI hh)), (6, .int cd)]) (pc := 224) hx hb dX12_kept_224 hl (by decide) rfl (fun ls hl => ?_)
                          refine lv_iload_n (pc := 226) hx hb dX12_kept_226 rfl (lv_at hl 4 rfl) ?_
                          refine lv_iload (pc := 227) hx hb dX12_kept_227 (lv_at hl 1 rfl) ?_
                          refine lv_ior (pc := 229) hx hb dX12_kept_229 ?_
                          refine lv_topi (fun v24 ev24 => ?_)
                          refine lv_istore_n (lv' := [(3, .int v24), (4, .int (td ||| cd)), (7, .int ((cd &&& (kn ^^^ (-1))) &&& (((nI k22) ^^^ (-1)) ||| td))), (0, .ref q1), (1, .int (nI v9)), (5, .int (nI hh)), (6, .int cd)]) (pc := 230) hx hb dX12_kept_230 rfl hl (by decide) rfl (fun ls hl => ?_)
                          refine lv_iload_n (pc := 231) hx hb dX12_kept_231 rfl (lv_at hl 0 rfl) ?_
                          refine lv_aload_n (pc := 232) hx hb dX12_kept_232 rfl (lv_at hl 3 rfl) ?_
                          refine lv_iload_n (pc := 233) hx hb dX12_kept_233 rfl (lv_at hl 4 rfl) ?_
                          refine h_call (pc := 234) (dd := 6) (avs := [.ref q1, .int (nI v9)]) (rs := [.int v24]) X hI (COV (SX12_everybody_0 l g) (by decide) vX12_274 rfl) ⟨Nat.le_refl _, Nat.le_refl _, Nat.le_refl _, Nat.le_refl _⟩ (by decide) hl.1 rfl rfl hU no_pf ⟨av_r t_q1 z_q1, avi_nI (lo := 0) (hi := 9) (k := v9) (by omega) (by omega) (by decide), trivial⟩ (fun _ => ⟨_, _, _, rfl, z_q1, (congrArg TS0.1 t_q1).trans rfl⟩) (md_sub (by decide)) (Nat.le_of_ble_eq_true rfl) dX12_kept_234 (fun vr H locs hro hI hUn => ?_)
                          have GG9 := hUn.fld t_q1 (by decide) rfl (by decide) GG9
                          have GL9 := hUn.fld t_q1 (by decide) rfl (by decide) GL9
                          have AL := AL.kept (hUn.arr t_lq (by decide) rfl (by decide))
                          have AG := AG.kept (hUn.arr t_gq (by decide) rfl (by decide))
                          obtain ⟨vhv25, rfl, hv25, imhv25⟩ := RO_some rfl hro
                          obtain ⟨x27, rfl, -⟩ := avi_int rfl hv25
                          obtain ⟨k26, rfl, lo_k26, hi_k26⟩ := avi_nn (lo := 0) (hi := 127) hv25
                          refine lv_icmp_ne (tgt := 243) (pc := 237) hx hb dX12_kept_237 rfl (fun c28 => ?_) (fun c28 => ?_)
                          · refine lv_iinc (v := nI (hh + 1)) (lv' := [(5, .int (nI (hh + 1))), (3, .int v24), (4, .int (td ||| cd)), (7, .int ((cd &&& (kn ^^^ (-1))) &&& (((nI k22) ^^^ (-1)) ||| td))), (0, .ref q1), (1, .int (nI v9)), (6, .int cd)]) (pc := 243) hx hb dX12_kept_243 hl (k := 5) rfl ((nI_succ hh).symm) (by decide) rfl (fun ls hl => ?_)
                            refine lv_goto (tgt := 58) (pc := 246) hx hb dX12_kept_246 rfl ?_
                            exact ihB v24 (td ||| cd) (hh + 1) f (by omega) (by omega) gi _ _ _ hI GG9 GL9 AL AG (lv_sub hl [4, 5, 1, 2, 0] rfl)
                          · refine lv_iload (pc := 240) hx hb dX12_kept_240 (lv_at hl 5 rfl) ?_
                            exact h_ret (pc := 242) X hI hQ hr (rk := 0) (Or.inl ⟨rfl, rfl⟩) ((avle_ok (a := vi 0 24) (by decide) (avi_nI (lo := 0) (hi := 24) (k := hh) (by omega) (by omega) (by decide)) : avi g Γ (vj (-1) 24) (.int (nI hh)))) (RO_of ((avle_ok (a := vi 0 24) (by decide) (avi_nI (lo := 0) (hi := 24) (k := hh) (by omega) (by omega) (by decide)) : avi g Γ (vj (-1) 24) (.int (nI hh)))) rfl) (Or.inl ⟨rfl, rfl, rfl⟩) dX12_kept_242
                        · have i9 : o < k17 := (nI_ltI (by omega) (by omega)).mp (Int32.not_le.mp c9)
                          obtain ⟨n8, m8, e1, e2, le8, lm8⟩ := gi o (by omega)
                          refine lv_bipush (v := 7) (pc := 87) hx hb dX12_kept_87 (by decide) ?_
                          refine lv_iload_n (pc := 89) hx hb dX12_kept_89 rfl (lv_at hl 1 rfl) ?_
                          refine lv_imul (pc := 90) hx hb dX12_kept_90 ?_
                          refine lv_topi (fun v29 ev29 => ?_)
                          obtain rfl : v29 = nI (7 * v9) := ev29.trans (pk_mul _ _)
                          refine lv_iload (pc := 91) hx hb dX12_kept_91 (lv_at hl 6 rfl) ?_
                          refine lv_iadd (pc := 93) hx hb dX12_kept_93 ?_
                          refine lv_topi (fun v30 ev30 => ?_)
                          obtain rfl : v30 = nI (7 * v9 + o) := ev30.trans (nI_add _ _)
                          refine lv_istore (lv' := [(8, .int (nI (7 * v9 + o))), (0, .ref q1), (1, .int (nI v9)), (3, .int kn), (4, .int td), (5, .int (nI hh)), (6, .int cd), (7, .int (nI o))]) (pc := 94) hx hb dX12_kept_94 hl (by decide) rfl (fun ls hl => ?_)
                          refine lv_iload_n (pc := 96) hx hb dX12_kept_96 rfl (lv_at hl 3 rfl) ?_
                          refine lv_iload (pc := 97) hx hb dX12_kept_97 (lv_at hl 7 rfl) ?_
                          refine lv_ishr (pc := 99) hx hb dX12_kept_99 ?_
                          refine lv_iconst (v := 1) (pc := 100) hx hb dX12_kept_100 (by decide) ?_
                          refine lv_iand (pc := 101) hx hb dX12_kept_101 ?_
                          refine lv_if_eq (tgt := 193) (pc := 102) hx hb dX12_kept_102 rfl (fun c31 => ?_) (fun c31 => ?_)
                          · refine lv_iinc (v := nI (o + 1)) (lv' := [(7, .int (nI (o + 1))), (8, .int (nI (7 * v9 + o))), (0, .ref q1), (1, .int (nI v9)), (3, .int kn), (4, .int td), (5, .int (nI hh)), (6, .int cd)]) (pc := 193) hx hb dX12_kept_193 hl (k := 7) rfl ((nI_succ o).symm) (by decide) rfl (fun ls hl => ?_)
                            refine lv_goto (tgt := 76) (pc := 196) hx hb dX12_kept_196 rfl ?_
                            exact ihC cd (o + 1) f (by omega) (by omega) gi _ _ _ hI GG9 GL9 AL AG (lv_sub hl [2, 3, 4, 5, 6, 7, 0] rfl)
                          · refine lv_aload_n (pc := 105) hx hb dX12_kept_105 rfl (lv_at hl 1 rfl) ?_
                            refine h_get (pc := 106) X hI.1 (hFX12 129 _ rfl) z_q1 ((congrArg TS0.1 t_q1).trans rfl) rfl dX12_kept_106 (fun vhv32 hv32 hEhv32 => ?_)
                            obtain rfl := FE_fun hEhv32 GG9
                            refine lv_iload (pc := 109) hx hb dX12_kept_109 (lv_at hl 7 rfl) ?_
                            refine h_ialdK (pc := 111) X AG (k := o) (by omega) (by decide) dX12_kept_111 ?_
                            rw [e1]
                            refine lv_aload_n (pc := 112) hx hb dX12_kept_112 rfl (lv_at hl 1 rfl) ?_
                            refine h_get (pc := 113) X hI.1 (hFX12 126 _ rfl) z_q1 ((congrArg TS0.1 t_q1).trans rfl) rfl dX12_kept_113 (fun vhv33 hv33 hEhv33 => ?_)
                            obtain rfl := FE_fun hEhv33 GL9
                            refine lv_iload (pc := 116) hx hb dX12_kept_116 (lv_at hl 0 rfl) ?_
                            refine h_ialdK (pc := 118) X AL (k := 7 * v9 + o) (by omega) (by decide) dX12_kept_118 ?_
                            rw [e2]
                            refine lv_icmp_ne (tgt := 125) (pc := 119) hx hb dX12_kept_119 rfl (fun c9 => ?_) (fun c9 => ?_)
                            · have lt8 : n8 < m8 := by
                                rcases Nat.lt_or_ge n8 m8 with h | h
                                · exact h
                                · exact absurd (by rw [show n8 = m8 by omega]) c9
                              refine lv_aload_n (pc := 125) hx hb dX12_kept_125 rfl (lv_at hl 1 rfl) ?_
                              refine h_get (pc := 126) X hI.1 (hFX12 123 _ rfl) z_q1 ((congrArg TS0.1 t_q1).trans rfl) rfl dX12_kept_126 (fun vhv34 hv34 hEhv34 => ?_)
                              obtain ⟨q35, rfl, t_q35, z_q35⟩ := avi_ref rfl hv34
                              have t_q35 : Γ q35 = 88 := t_q35
                              refine lv_bipush (v := 6) (pc := 129) hx hb dX12_kept_129 (by decide) ?_
                              refine lv_iload (pc := 131) hx hb dX12_kept_131 (lv_at hl 0 rfl) ?_
                              refine lv_imul (pc := 133) hx hb dX12_kept_133 ?_
                              refine lv_topi (fun v36 ev36 => ?_)
                              obtain rfl : v36 = nI (6 * (7 * v9 + o)) := ev36.trans (pk_mul _ _)
                              refine lv_aload_n (pc := 134) hx hb dX12_kept_134 rfl (lv_at hl 1 rfl) ?_
                              refine h_get (pc := 135) X hI.1 (hFX12 129 _ rfl) z_q1 ((congrArg TS0.1 t_q1).trans rfl) rfl dX12_kept_135 (fun vhv37 hv37 hEhv37 => ?_)
                              obtain rfl := FE_fun hEhv37 GG9
                              refine lv_iload (pc := 138) hx hb dX12_kept_138 (lv_at hl 7 rfl) ?_
                              refine h_ialdK (pc := 140) X AG (k := o) (by omega) (by decide) dX12_kept_140 ?_
                              rw [e1]
                              refine lv_iadd (pc := 141) hx hb dX12_kept_141 ?_
                              refine lv_topi (fun v38 ev38 => ?_)
                              obtain rfl : v38 = nI (6 * (7 * v9 + o) + n8) := ev38.trans (nI_add _ _)
                              refine h_iald (pc := 142) X hI.1 z_q35 ((congrArg TS0.1 t_q35).trans rfl) (avi_nI (lo := 0) (hi := 419) (k := (6 * (7 * v9 + o) + n8)) (Nat.zero_le _) (by omega) (by decide)) (by decide) (by decide) dX12_kept_142 (fun vhv39 hv39 hEhv39 => ?_)
                              obtain ⟨x41, rfl, -⟩ := avi_int rfl hv39
                              obtain ⟨k40, rfl, lo_k40, hi_k40⟩ := avi_nn (lo := 0) (hi := 6) hv39
                              refine lv_istore (lv' := [(9, .int (nI k40)), (8, .int (nI (7 * v9 + o))), (0, .ref q1), (1, .int (nI v9)), (3, .int kn), (4, .int td), (5, .int (nI hh)), (6, .int cd), (7, .int (nI o))]) (pc := 143) hx hb dX12_kept_143 hl (by decide) rfl (fun ls hl => ?_)
                              refine lv_iload (pc := 145) hx hb dX12_kept_145 (lv_at hl 7 rfl) ?_
                              refine lv_iload (pc := 147) hx hb dX12_kept_147 (lv_at hl 0 rfl) ?_
                              refine lv_ishr (pc := 149) hx hb dX12_kept_149 ?_
                              refine lv_iconst (v := 1) (pc := 150) hx hb dX12_kept_150 (by decide) ?_
                              refine lv_iand (pc := 151) hx hb dX12_kept_151 ?_
                              refine lv_iconst (v := 1) (pc := 152) hx hb dX12_kept_152 (by decide) ?_
                              refine lv_icmp_eq (tgt := 193) (pc := 153) hx hb dX12_kept_153 rfl (fun c42 => ?_) (fun c42 => ?_)
                              · refine lv_iinc (v := nI (o + 1)) (lv' := [(7, .int (nI (o + 1))), (9, .int (nI k40)), (8, .int (nI (7 * v9 + o))), (0, .ref q1), (1, .int (nI v9)), (3, .int kn), (4, .int td), (5, .int (nI hh)), (6, .int cd)]) (pc := 193) hx hb dX12_kept_193 hl (k := 8) rfl ((nI_succ o).symm) (by decide) rfl (fun ls hl => ?_)
                                refine lv_goto (tgt := 76) (pc := 196) hx hb dX12_kept_196 rfl ?_
                                exact ihC cd (o + 1) f (by omega) (by omega) gi _ _ _ hI GG9 GL9 AL AG (lv_sub hl [3, 4, 5, 6, 7, 8, 0] rfl)
                              · refine lv_aload_n (pc := 156) hx hb dX12_kept_156 rfl (lv_at hl 2 rfl) ?_
                                refine lv_iload_n (pc := 157) hx hb dX12_kept_157 rfl (lv_at hl 3 rfl) ?_
                                refine lv_iload (pc := 158) hx hb dX12_kept_158 (lv_at hl 8 rfl) ?_
                                refine lv_iload (pc := 160) hx hb dX12_kept_160 (lv_at hl 0 rfl) ?_
                                refine lv_iload (pc := 162) hx hb dX12_kept_162 (lv_at hl 6 rfl) ?_
                                refine h_call (pc := 164) (dd := 6) (avs := [.ref q1, .int (nI v9), .int (nI o), .int (nI k40), .int (nI hh)]) (rs := []) X hI (COV (SX12_mayCall_0 l g) (by decide) vX12_240 rfl) ⟨Nat.le_refl _, Nat.le_refl _, Nat.le_refl _, Nat.le_refl _⟩ (by decide) hl.1 rfl rfl hU no_pf ⟨av_r t_q1 z_q1, avi_nI (lo := 0) (hi := 9) (k := v9) (by omega) (by omega) (by decide), avi_top _, avi_top _, avi_top _, trivial⟩ (fun _ => ⟨_, _, _, rfl, z_q1, (congrArg TS0.1 t_q1).trans rfl⟩) (md_sub (by decide)) (Nat.le_of_ble_eq_true rfl) dX12_kept_164 (fun vr H locs hro hI hUn => ?_)
                                have GG9 := hUn.fld t_q1 (by decide) rfl (by decide) GG9
                                have GL9 := hUn.fld t_q1 (by decide) rfl (by decide) GL9
                                have AL := AL.kept (hUn.arr t_lq (by decide) rfl (by decide))
                                have AG := AG.kept (hUn.arr t_gq (by decide) rfl (by decide))
                                obtain ⟨vhv43, rfl, hv43, imhv43⟩ := RO_some rfl hro
                                obtain ⟨x45, rfl, -⟩ := avi_int rfl hv43
                                obtain ⟨k44, rfl, lo_k44, hi_k44⟩ := avi_nn (lo := 0) (hi := 1) hv43
                                refine lv_if_ne (tgt := 173) (pc := 167) hx hb dX12_kept_167 rfl (fun c46 => ?_) (fun c46 => ?_)
                                · refine lv_iload (pc := 173) hx hb dX12_kept_173 (lv_at hl 7 rfl) ?_
                                  refine lv_iconst (v := 1) (pc := 175) hx hb dX12_kept_175 (by decide) ?_
                                  refine lv_iload (pc := 176) hx hb dX12_kept_176 (lv_at hl 0 rfl) ?_
                                  refine lv_ishl (pc := 178) hx hb dX12_kept_178 ?_
                                  refine lv_ior (pc := 179) hx hb dX12_kept_179 ?_
                                  refine lv_istore (lv' := [(6, .int (cd ||| (1 <<< ((nI k40) &&& 31)))), (9, .int (nI k40)), (8, .int (nI (7 * v9 + o))), (0, .ref q1), (1, .int (nI v9)), (3, .int kn), (4, .int td), (5, .int (nI hh)), (7, .int (nI o))]) (pc := 180) hx hb dX12_kept_180 hl (by decide) rfl (fun ls hl => ?_)
                                  refine lv_aload_n (pc := 182) hx hb dX12_kept_182 rfl (lv_at hl 3 rfl) ?_
                                  refine h_get (pc := 183) X hI.1 (hFX12 129 _ rfl) z_q1 ((congrArg TS0.1 t_q1).trans rfl) rfl dX12_kept_183 (fun vhv47 hv47 hEhv47 => ?_)
                                  obtain rfl := FE_fun hEhv47 GG9
                                  refine lv_iload (pc := 186) hx hb dX12_kept_186 (lv_at hl 8 rfl) ?_
                                  refine lv_dup2_11 (pc := 188) hx hb dX12_kept_188 rfl rfl ?_
                                  refine h_ialdK (pc := 189) X AG (k := o) (by omega) (by decide) dX12_kept_189 ?_
                                  rw [e1]
                                  refine lv_iconst (v := 1) (pc := 190) hx hb dX12_kept_190 (by decide) ?_
                                  refine lv_iadd (pc := 191) hx hb dX12_kept_191 ?_
                                  refine lv_topi (fun v48 ev48 => ?_)
                                  obtain rfl : v48 = nI (n8 + 1) := ev48.trans (nI_1 _)
                                  refine h_stK (pc := 192) (kd := 1) (n := 7) (a := vi 0 6) (k := o) (x := nI (n8 + 1)) X hI z_gq (Or.inl ⟨rfl, rfl⟩) ((congrArg TS0.1 t_gq).trans rfl) AG (bndK (Or.inr (Or.inl rfl)) hI.1 t_gq (by decide) rfl AG) (by omega) (by decide) (avi_nI (lo := 0) (hi := 6) (k := n8 + 1) (by omega) (by omega) (by decide)) (by rw [t_gq]; decide) (fun _ _ _ hun => hI.1.2.keep hun (by rw [t_gq]; decide)) dX12_kept_192 (fun H locs hI AG _ hUn => ?_)
                                  rw [t_gq] at hUn
                                  have GG9 := hUn.fld t_q1 (by decide) rfl (by decide) GG9
                                  have GL9 := hUn.fld t_q1 (by decide) rfl (by decide) GL9
                                  have AL := AL.kept (hUn.arr t_lq (by decide) rfl (by decide))
                                  have gi2 : ∀ o2 : Nat, o2 < 7 → ∃ n m : Nat, upd f o (nI (n8 + 1)) o2 = nI n ∧ cl9 (7 * v9 + o2) = nI m ∧ n ≤ m ∧ m ≤ 6 := fun o2 ho => by
                                    by_cases e : o2 = o
                                    · subst e
                                      exact ⟨n8 + 1, m8, by simp only [upd, if_true], e2, by omega, lm8⟩
                                    · simp only [upd, e, if_false]
                                      exact gi o2 ho
                                  refine lv_iinc (v := nI (o + 1)) (lv' := [(7, .int (nI (o + 1))), (6, .int (cd ||| (1 <<< ((nI k40) &&& 31)))), (9, .int (nI k40)), (8, .int (nI (7 * v9 + o))), (0, .ref q1), (1, .int (nI v9)), (3, .int kn), (4, .int td), (5, .int (nI hh))]) (pc := 193) hx hb dX12_kept_193 hl (k := 8) rfl ((nI_succ o).symm) (by decide) rfl (fun ls hl => ?_)
                                  refine lv_goto (tgt := 76) (pc := 196) hx hb dX12_kept_196 rfl ?_
                                  exact ihC (cd ||| (1 <<< ((nI k40) &&& 31))) (o + 1) (upd f o (nI (n8 + 1))) (by omega) (by omega) gi2 _ _ _ hI GG9 GL9 AL AG (lv_sub hl [4, 5, 6, 7, 8, 1, 0] rfl)
                                · refine lv_goto (tgt := 193) (pc := 170) hx hb dX12_kept_170 rfl ?_
                                  refine lv_iinc (v := nI (o + 1)) (lv' := [(7, .int (nI (o + 1))), (9, .int (nI k40)), (8, .int (nI (7 * v9 + o))), (0, .ref q1), (1, .int (nI v9)), (3, .int kn), (4, .int td), (5, .int (nI hh)), (6, .int cd)]) (pc := 193) hx hb dX12_kept_193 hl (k := 8) rfl ((nI_succ o).symm) (by decide) rfl (fun ls hl => ?_)
                                  refine lv_goto (tgt := 76) (pc := 196) hx hb dX12_kept_196 rfl ?_
                                  exact ihC cd (o + 1) f (by omega) (by omega) gi _ _ _ hI GG9 GL9 AL AG (lv_sub hl [3, 4, 5, 6, 7, 8, 0] rfl)
                            · refine lv_goto (tgt := 193) (pc := 122) hx hb dX12_kept_122 rfl ?_
                              refine lv_iinc (v := nI (o + 1)) (lv' := [(7, .int (nI (o + 1))), (8, .int (nI (7 * v9 + o))), (0, .ref q1), (1, .int (nI v9)), (3, .int kn), (4, .int td), (5, .int (nI hh)), (6, .int cd)]) (pc := 193) hx hb dX12_kept_193 hl (k := 7) rfl ((nI_succ o).symm) (by decide) rfl (fun ls hl => ?_)
                              refine lv_goto (tgt := 76) (pc := 196) hx hb dX12_kept_196 rfl ?_
                              exact ihC cd (o + 1) f (by omega) (by omega) gi _ _ _ hI GG9 GL9 AL AG (lv_sub hl [2, 3, 4, 5, 6, 7, 0] rfl)
                    exact loopC 8 0 0 f (by decide) (by decide) gi _ _ _ hI GG9 GL9 AL AG (lv_sub hl [2, 3, 4, 5, 6, 1, 0] rfl)
            exact loopB 26 (1 <<< ((nI p9) &&& 31)) 0 0 f (by decide) (by decide) gi _ _ _ hI GG9 GL9 AL AG (lv_sub hl [1, 2, 4, 5, 0] rfl)
          · have i9 : i < 7 := (nI_ltI (by omega) (by omega)).mp (Int32.not_le.mp c9)
            refine lv_aload_n (pc := 41) hx hb dX12_kept_41 rfl (lv_at hl 0 rfl) ?_
            refine h_get (pc := 42) X hI.1 (hFX12 129 _ rfl) z_q1 ((congrArg TS0.1 t_q1).trans rfl) rfl dX12_kept_42 (fun vhv49 hv49 hEhv49 => ?_)
            obtain rfl := FE_fun hEhv49 GG9
            refine lv_iload (pc := 45) hx hb dX12_kept_45 (lv_at hl 5 rfl) ?_
            refine lv_iconst (v := 0) (pc := 47) hx hb dX12_kept_47 (by decide) ?_
            refine h_stK (pc := 48) (kd := 1) (n := 7) (a := vi 0 6) (k := i) (x := 0) X hI z_gq (Or.inl ⟨rfl, rfl⟩) ((congrArg TS0.1 t_gq).trans rfl) AG (bndK (Or.inr (Or.inl rfl)) hI.1 t_gq (by decide) rfl AG) (by omega) (by decide) (avi_nI (lo := 0) (hi := 6) (k := 0) (by omega) (by omega) (by decide)) (by rw [t_gq]; decide) (fun _ _ _ hun => hI.1.2.keep hun (by rw [t_gq]; decide)) dX12_kept_48 (fun H locs hI AG _ hUn => ?_)
            rw [t_gq] at hUn
            have GG9 := hUn.fld t_q1 (by decide) rfl (by decide) GG9
            have GL9 := hUn.fld t_q1 (by decide) rfl (by decide) GL9
            have AL := AL.kept (hUn.arr t_lq (by decide) rfl (by decide))
            refine lv_iinc (v := nI (i + 1)) (lv' := [(5, .int (nI (i + 1))), (0, .ref q1), (1, .int (nI v9)), (2, .int (nI p9)), (3, .int (1 <<< ((nI p9) &&& 31))), (4, .int 0)]) (pc := 49) hx hb dX12_kept_49 hl (k := 5) rfl ((nI_succ i).symm) (by decide) rfl (fun ls hl => ?_)
            refine lv_goto (tgt := 34) (pc := 52) hx hb dX12_kept_52 rfl ?_
            exact ihA (i + 1) _ (by omega) (by omega) (fun o ho => by
                by_cases e : o = i
                · subst e; simp only [upd, if_true]; rfl
                · simp only [upd, e, if_false]; exact zz o (by omega)) _ _ _ hI GG9 GL9 AL AG (lv_sub hl [1, 2, 3, 4, 5, 0] rfl)
      exact loopA 8 0 f0 (by decide) (by decide) (fun o ho => absurd ho (Nat.not_lt_zero o)) _ _ _ hI GG9 GL9 AL AG (lv_sub hl [3, 4, 5, 2, 1, 0] rfl)
    · refine lv_iconst (v := (-1)) (pc := 22) hx hb dX12_kept_22 (by decide) ?_
      exact h_ret (pc := 23) X hI hQ hr (rk := 0) (Or.inl ⟨rfl, rfl⟩) ((⟨rfl, by decide, by decide⟩ : avi g Γ (vj (-1) 24) (.int (-1)))) (RO_of ((⟨rfl, by decide, by decide⟩ : avi g Γ (vj (-1) 24) (.int (-1)))) rfl) (Or.inl ⟨rfl, rfl, rfl⟩) dX12_kept_23

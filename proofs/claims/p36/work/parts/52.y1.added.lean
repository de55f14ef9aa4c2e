/-! what a method leaves, by a walk over heaps that keep to their tags -/
def MM (l : Launch) (g : GG) (y : MethodName) (c : ByteArray) (n : Nat) (r : Option FieldType) (sp : SPEC) (Γ : Nat → Nat) (As : List Value) (Pre : Heap → Prop) (Post : Heap → Value → Heap → Prop) : Prop :=
  Met l y (WW y c n r) (RM sp.1 0 0) (va_Pc As (fun U => SPRE g TS0 Γ As [] U ∧ Pre U.heap)) (fun _ st o t => ∀ v : Value, o = .returned (some v) → Post st.heap v t.heap) 0 0 (fun q => Γ q ≠ 0)
theorem MM_hand {l : Launch} {g : GG} {y : MethodName} {cc : ByteArray} {nL : Nat} {r : Option FieldType} {sp : SPEC} {Γ : Nat → Nat} {As : List Value} {Pre : Heap → Prop} {Post : Heap → Value → Heap → Prop} {own : String} (ho : y.cls = own) (hy : plainName y.cls = true) (hA : (sp.2.1.map acat).sum ≤ nL) (hV : VR g Γ sp.2.1 As)
    (body : ∀ (p : Program) (e : Env) (s : State) (m : MethodId) (below : List Frame) (meth : Method) (c : Code) (ls : Array Slot) (Q : State → Prop), MQ below (fun _ st o t => ∀ v : Value, o = .returned (some v) → Post st.heap v t.heap) As.toArray s 0 0 (fun q => Γ q ≠ 0) = Q → CTX p l m meth c cc nL s As.toArray own g (AA Γ s.heap.size) → meth.sig.returnType = r → HI g TS0 Γ sp.2.2.2.2.1 s s.heap [] → Pre s.heap → lv_has ls nL (lv_args 0 As) → W p l e (RM sp.1 0 0) s m As.toArray below meth c s.heap [] 0 0 Q (F0 m 0 ls [])) : MM l g y cc nL r sp Γ As Pre Post := by
  have hA2 : (lg_sl As).length ≤ nL := by rw [sl_len hV]; exact hA
  refine Met.ofW (cc := cc) (maxL := nL) (ret := r) hy rfl ?_
  intro p e s m args below meth c s₁ B hml hv
  obtain ⟨rfl, ⟨hT, hKX, hTB, hPF⟩, hPre⟩ := hv
  have hts := atoms_spec (ws := WW y cc nL r) B.pre
  have hl := lv_entry As (n := nL) hA2
  have X : CTX p l m meth c cc nL s As.toArray own g (AA Γ s.heap.size) := ⟨B.exec, B.bytes, hml, by rw [← ho]; exact findClass_of_methodNamed B.named, fun w h => hts w (List.mem_cons_of_mem _ h), hKX, hTB, fun q h => Or.inr h, B.notSynchronized⟩
  rw [lg_entry_eq]
  exact body p e s m below meth c _ _ rfl X B.returns ⟨hT, rfl, fun _ _ => rfl, fun _ h => (List.not_mem_nil h).elim, fun q _ => Un1.same rfl⟩ hPre hl
theorem h_retM {p : Program} {l : Launch} {e : Env} {R : Room} {s : State} {m : MethodId} {args : Array Value} {below : List Frame} {meth : Method} {c : Code} {H : Heap} {locs : List Loc} {cells slots : Nat} {Q : State → Prop} {cc : ByteArray} {pc nL : Nat} {ls : Array Slot} {own : String} {g : GG} {ts : TS} {Γ : Nat → Nat} {mods : List (Nat × Nat)} {Post : Heap → Value → Heap → Prop} (X : CTX p l m meth c cc nL s args own g (AA Γ s.heap.size)) (hI : HI g ts Γ mods s H locs) (hQ : MQ below (fun _ st o t => ∀ v : Value, o = .returned (some v) → Post st.heap v t.heap) args s cells slots (fun q => Γ q ≠ 0) = Q) (hr : meth.sig.returnType = some .int) {x : Int32} (hP : Post s.heap (.int x) H) (hdg : decode cc pc = .ok (.ireturn, 1)) : W p l e R s m args below meth c H locs cells slots Q (F0 m pc ls [.int x]) := by
  subst hQ
  exact W.iret X.1 X.2.1 hr (fun t ht _ v hv => by cases hv; rw [ht]; exact hP) hI.2.2.2.1 hdg X.2.2.2.2.2.2.2.2
theorem EX_mm {l : Launch} {g : GG} {y : MethodName} {c : ByteArray} {n : Nat} {r : Option FieldType} {sp : SPEC} {Γ : Nat → Nat} {As : List Value} {Pre : Heap → Prop} {Post : Heap → Value → Heap → Prop} (hM : SM l g TS0 y c n r sp) (hU : UQ TS0 Γ) (hV : VR g Γ sp.2.1 As) (hpf : sp.2.2.2.2.2 = []) (h : MM l g y c n r sp Γ As Pre Post) : EX l g y c n r sp Γ As Pre Post := by
  intro p e a1 a2 a3 s m args below b1 b2 b3 b4
  obtain ⟨ea, hS, hPre⟩ := b3
  obtain ⟨k, o, c1, c2, c3, c4, L, c5, c6⟩ := hM Γ As hU hV p e a1 a2 a3 s m args below b1 b2 ⟨ea, by rw [hpf]; exact hS⟩ b4
  obtain ⟨k', o', d1, d2, d3, d4, -⟩ := h p e a1 a2 a3 s m args below b1 b2 ⟨ea, hS, hPre⟩ b4
  have hk : k = k' := by
    rcases Nat.lt_trichotomy k k' with h | h | h
    · exact absurd (d1 k h) c3.not_within
    · exact h
    · exact absurd (c1 k' h) d3.not_within
  subst hk
  have ho := c3.outcome_unique d3
  subst ho
  exact ⟨k, o, c1, c2, c3, ⟨c4, d4⟩, L, c5, c6⟩
/-- no line is thought of that isn't there -/
def RMM (g : GG) (m0 : Nat) (H : Heap) : Prop := FE g m0 12 19 H (.int (-1)) ∧ FE g m0 12 20 H (.int (-1))
theorem RMM.keep {g : GG} {Γ : Nat → Nat} {H H1 : Heap} {m0 : Nat} {mods : List (Nat × Nat)} (h : RMM g m0 H) (tm : Γ m0 = 60) (hu : Un g TS0 Γ mods H H1) (hm : mdn [(60, 19), (60, 20)] mods = true) : RMM g m0 H1 := ⟨hu.fld tm (by decide) rfl (mdn_at hm (by decide)) h.1, hu.fld tm (by decide) rfl (mdn_at hm (by decide)) h.2⟩
theorem RMM.same {g : GG} {H H1 : Heap} {m0 : Nat} (h : RMM g m0 H) (e : H1[m0]? = H[m0]?) : RMM g m0 H1 := ⟨FE_kept h.1 e, FE_kept h.2 e⟩
theorem dX12_added_9 : decode cX12_added 9 = .ok (.iload_n 3, 1) := DX12_added _ _ _ rfl
theorem dX12_added_10 : decode cX12_added 10 = .ok (.iconst 0, 1) := DX12_added _ _ _ rfl
theorem dX12_added_11 : decode cX12_added 11 = .ok (.iconst 2, 1) := DX12_added _ _ _ rfl
theorem dX12_added_12 : decode cX12_added 12 = .ok (.invokestatic 198, 3) := DX12_added _ _ _ rfl
theorem dX12_added_15 : decode cX12_added 15 = .ok (.ifCond .ne 5, 3) := DX12_added _ _ _ rfl
theorem dX12_added_20 : decode cX12_added 20 = .ok (.bipush 25, 2) := DX12_added _ _ _ rfl
theorem dX12_added_22 : decode cX12_added 22 = .ok (.aload_n 0, 1) := DX12_added _ _ _ rfl
theorem dX12_added_23 : decode cX12_added 23 = .ok (.iload_n 1, 1) := DX12_added _ _ _ rfl
theorem dX12_added_24 : decode cX12_added 24 = .ok (.iload_n 2, 1) := DX12_added _ _ _ rfl
theorem dX12_added_25 : decode cX12_added 25 = .ok (.iconst 1, 1) := DX12_added _ _ _ rfl
theorem dX12_added_26 : decode cX12_added 26 = .ok (.invokevirtual 318, 3) := DX12_added _ _ _ rfl
theorem mm_X12_29 : (Cond.methodLink "NoonValleyModel" 296 Lib.Math.min.name) ∈ BW := bw (tb7 189 rfl) (by decide +kernel)
theorem mms_min : (Cond.static Lib.Math.min.name) ∈ BW := bw (tb4 96 rfl) (by decide +kernel)
theorem mmc_min : (Cond.code Lib.Math.min.name Lib.Math.min.code 2 (some .int)) ∈ BW := bw (tb4 97 rfl) (by decide +kernel)
theorem dX12_added_29 : decode cX12_added 29 = .ok (.invokestatic 296, 3) := DX12_added _ _ _ rfl
theorem dX12_added_32 : decode cX12_added 32 = .ok (.istore 4, 2) := DX12_added _ _ _ rfl
theorem dX12_added_34 : decode cX12_added 34 = .ok (.iconst (-1), 1) := DX12_added _ _ _ rfl
theorem dX12_added_35 : decode cX12_added 35 = .ok (.istore 5, 2) := DX12_added _ _ _ rfl
theorem dX12_added_37 : decode cX12_added 37 = .ok (.iconst (-1), 1) := DX12_added _ _ _ rfl
theorem dX12_added_38 : decode cX12_added 38 = .ok (.istore 6, 2) := DX12_added _ _ _ rfl
theorem dX12_added_40 : decode cX12_added 40 = .ok (.bipush 99, 2) := DX12_added _ _ _ rfl
theorem dX12_added_42 : decode cX12_added 42 = .ok (.istore 7, 2) := DX12_added _ _ _ rfl
theorem dX12_added_44 : decode cX12_added 44 = .ok (.iconst 0, 1) := DX12_added _ _ _ rfl
theorem dX12_added_45 : decode cX12_added 45 = .ok (.istore 8, 2) := DX12_added _ _ _ rfl
theorem dX12_added_47 : decode cX12_added 47 = .ok (.iload 8, 2) := DX12_added _ _ _ rfl
theorem dX12_added_49 : decode cX12_added 49 = .ok (.aload_n 0, 1) := DX12_added _ _ _ rfl
theorem dX12_added_50 : decode cX12_added 50 = .ok (.getfield 13, 3) := DX12_added _ _ _ rfl
theorem dX12_added_53 : decode cX12_added 53 = .ok (.iload_n 1, 1) := DX12_added _ _ _ rfl
theorem dX12_added_54 : decode cX12_added 54 = .ok (.iaload, 1) := DX12_added _ _ _ rfl
theorem dX12_added_55 : decode cX12_added 55 = .ok (.if_icmp .ge 105, 3) := DX12_added _ _ _ rfl
theorem dX12_added_160 : decode cX12_added 160 = .ok (.iload 5, 2) := DX12_added _ _ _ rfl
theorem dX12_added_162 : decode cX12_added 162 = .ok (.iconst (-1), 1) := DX12_added _ _ _ rfl
theorem dX12_added_163 : decode cX12_added 163 = .ok (.if_icmp .ne 7, 3) := DX12_added _ _ _ rfl
theorem dX12_added_170 : decode cX12_added 170 = .ok (.iload_n 3, 1) := DX12_added _ _ _ rfl
theorem dX12_added_171 : decode cX12_added 171 = .ok (.ifCond .ne 8, 3) := DX12_added _ _ _ rfl
theorem dX12_added_179 : decode cX12_added 179 = .ok (.iload_n 3, 1) := DX12_added _ _ _ rfl
theorem dX12_added_180 : decode cX12_added 180 = .ok (.iconst 1, 1) := DX12_added _ _ _ rfl
theorem dX12_added_181 : decode cX12_added 181 = .ok (.if_icmp .ne 8, 3) := DX12_added _ _ _ rfl
theorem dX12_added_189 : decode cX12_added 189 = .ok (.iload 4, 2) := DX12_added _ _ _ rfl
theorem dX12_added_191 : decode cX12_added 191 = .ok (.iload 7, 2) := DX12_added _ _ _ rfl
theorem dX12_added_193 : decode cX12_added 193 = .ok (.isub, 1) := DX12_added _ _ _ rfl
theorem dX12_added_194 : decode cX12_added 194 = .ok (.ireturn, 1) := DX12_added _ _ _ rfl
theorem dX12_added_184 : decode cX12_added 184 = .ok (.iload 6, 2) := DX12_added _ _ _ rfl
theorem dX12_added_186 : decode cX12_added 186 = .ok (.goto 8, 3) := DX12_added _ _ _ rfl
theorem dX12_added_174 : decode cX12_added 174 = .ok (.iload 5, 2) := DX12_added _ _ _ rfl
theorem dX12_added_176 : decode cX12_added 176 = .ok (.goto 18, 3) := DX12_added _ _ _ rfl
theorem dX12_added_166 : decode cX12_added 166 = .ok (.iconst (-1), 1) := DX12_added _ _ _ rfl
theorem dX12_added_167 : decode cX12_added 167 = .ok (.goto 27, 3) := DX12_added _ _ _ rfl
theorem dX12_added_58 : decode cX12_added 58 = .ok (.iload 8, 2) := DX12_added _ _ _ rfl
theorem dX12_added_60 : decode cX12_added 60 = .ok (.iconst 1, 1) := DX12_added _ _ _ rfl
theorem dX12_added_61 : decode cX12_added 61 = .ok (.iadd, 1) := DX12_added _ _ _ rfl
theorem dX12_added_62 : decode cX12_added 62 = .ok (.istore 9, 2) := DX12_added _ _ _ rfl
theorem dX12_added_64 : decode cX12_added 64 = .ok (.iload 9, 2) := DX12_added _ _ _ rfl
theorem dX12_added_66 : decode cX12_added 66 = .ok (.aload_n 0, 1) := DX12_added _ _ _ rfl
theorem dX12_added_67 : decode cX12_added 67 = .ok (.getfield 13, 3) := DX12_added _ _ _ rfl
theorem dX12_added_70 : decode cX12_added 70 = .ok (.iload_n 1, 1) := DX12_added _ _ _ rfl
theorem dX12_added_71 : decode cX12_added 71 = .ok (.iaload, 1) := DX12_added _ _ _ rfl
theorem dX12_added_72 : decode cX12_added 72 = .ok (.if_icmp .ge 82, 3) := DX12_added _ _ _ rfl
theorem dX12_added_154 : decode cX12_added 154 = .ok (.iinc 8 1, 3) := DX12_added _ _ _ rfl
theorem dX12_added_157 : decode cX12_added 157 = .ok (.goto (-110), 3) := DX12_added _ _ _ rfl
theorem dX12_added_75 : decode cX12_added 75 = .ok (.aload_n 0, 1) := DX12_added _ _ _ rfl
theorem dX12_added_76 : decode cX12_added 76 = .ok (.iload_n 1, 1) := DX12_added _ _ _ rfl
theorem dX12_added_77 : decode cX12_added 77 = .ok (.iload 8, 2) := DX12_added _ _ _ rfl
theorem dX12_added_79 : decode cX12_added 79 = .ok (.iload 9, 2) := DX12_added _ _ _ rfl
theorem dX12_added_81 : decode cX12_added 81 = .ok (.invokevirtual 331, 3) := DX12_added _ _ _ rfl
theorem dX12_added_84 : decode cX12_added 84 = .ok (.ifCond .eq 6, 3) := DX12_added _ _ _ rfl
theorem dX12_added_90 : decode cX12_added 90 = .ok (.aload_n 0, 1) := DX12_added _ _ _ rfl
theorem dX12_added_91 : decode cX12_added 91 = .ok (.iload 8, 2) := DX12_added _ _ _ rfl
theorem dX12_added_93 : decode cX12_added 93 = .ok (.putfield 51, 3) := DX12_added _ _ _ rfl
theorem dX12_added_96 : decode cX12_added 96 = .ok (.aload_n 0, 1) := DX12_added _ _ _ rfl
theorem dX12_added_97 : decode cX12_added 97 = .ok (.iload 9, 2) := DX12_added _ _ _ rfl
theorem dX12_added_99 : decode cX12_added 99 = .ok (.putfield 55, 3) := DX12_added _ _ _ rfl
theorem dX12_added_102 : decode cX12_added 102 = .ok (.bipush 25, 2) := DX12_added _ _ _ rfl
theorem dX12_added_104 : decode cX12_added 104 = .ok (.aload_n 0, 1) := DX12_added _ _ _ rfl
theorem dX12_added_105 : decode cX12_added 105 = .ok (.iload_n 1, 1) := DX12_added _ _ _ rfl
theorem dX12_added_106 : decode cX12_added 106 = .ok (.iload_n 2, 1) := DX12_added _ _ _ rfl
theorem dX12_added_107 : decode cX12_added 107 = .ok (.iconst 1, 1) := DX12_added _ _ _ rfl
theorem dX12_added_108 : decode cX12_added 108 = .ok (.invokevirtual 318, 3) := DX12_added _ _ _ rfl
theorem mm_X12_111 : (Cond.methodLink "NoonValleyModel" 296 Lib.Math.min.name) ∈ BW := bw (tb7 189 rfl) (by decide +kernel)
theorem dX12_added_111 : decode cX12_added 111 = .ok (.invokestatic 296, 3) := DX12_added _ _ _ rfl
theorem dX12_added_114 : decode cX12_added 114 = .ok (.istore 10, 2) := DX12_added _ _ _ rfl
theorem dX12_added_116 : decode cX12_added 116 = .ok (.aload_n 0, 1) := DX12_added _ _ _ rfl
theorem dX12_added_117 : decode cX12_added 117 = .ok (.iconst (-1), 1) := DX12_added _ _ _ rfl
theorem dX12_added_118 : decode cX12_added 118 = .ok (.putfield 51, 3) := DX12_added _ _ _ rfl
theorem dX12_added_121 : decode cX12_added 121 = .ok (.aload_n 0, 1) := DX12_added _ _ _ rfl
theorem dX12_added_122 : decode cX12_added 122 = .ok (.iconst (-1), 1) := DX12_added _ _ _ rfl
theorem dX12_added_123 : decode cX12_added 123 = .ok (.putfield 55, 3) := DX12_added _ _ _ rfl
theorem dX12_added_126 : decode cX12_added 126 = .ok (.iload 10, 2) := DX12_added _ _ _ rfl
theorem dX12_added_128 : decode cX12_added 128 = .ok (.iload 7, 2) := DX12_added _ _ _ rfl
theorem dX12_added_130 : decode cX12_added 130 = .ok (.if_icmp .lt 6, 3) := DX12_added _ _ _ rfl
theorem dX12_added_136 : decode cX12_added 136 = .ok (.iload 10, 2) := DX12_added _ _ _ rfl
theorem dX12_added_138 : decode cX12_added 138 = .ok (.istore 7, 2) := DX12_added _ _ _ rfl
theorem dX12_added_140 : decode cX12_added 140 = .ok (.iload 8, 2) := DX12_added _ _ _ rfl
theorem dX12_added_142 : decode cX12_added 142 = .ok (.istore 5, 2) := DX12_added _ _ _ rfl
theorem dX12_added_144 : decode cX12_added 144 = .ok (.iload 9, 2) := DX12_added _ _ _ rfl
theorem dX12_added_146 : decode cX12_added 146 = .ok (.istore 6, 2) := DX12_added _ _ _ rfl
theorem dX12_added_148 : decode cX12_added 148 = .ok (.iinc 9 1, 3) := DX12_added _ _ _ rfl
theorem dX12_added_151 : decode cX12_added 151 = .ok (.goto (-87), 3) := DX12_added _ _ _ rfl
theorem dX12_added_133 : decode cX12_added 133 = .ok (.goto 15, 3) := DX12_added _ _ _ rfl
theorem dX12_added_87 : decode cX12_added 87 = .ok (.goto 61, 3) := DX12_added _ _ _ rfl
set_option maxHeartbeats 4000000 in
set_option maxRecDepth 100000 in
theorem Q12_added (l : Launch) (g : GG) {Γ : Nat → Nat} (hU : UQ TS0 Γ) (m0 : Nat) (p0 p1 p2 : Int32) (tm : Γ m0 = 60) : MM l g yX12_added cX12_added 11 (some .int) pX12_added_0 Γ [.ref m0, .int p0, .int p1, .int p2] (fun H => RMM g m0 H) (fun _ _ H1 => RMM g m0 H1) := by
  refine MM_hand (own := RX12) rfl (by decide) (by decide) ⟨av_ref tm (by decide), avi_top _, avi_top _, avi_top _, trivial⟩ ?_
  intro p e s m below meth c ls Q hQ X hr hI hPre hl
  have hx := X.1
  have hb := X.2.1
  have t_m0 : Γ m0 = 60 := tm
  have z_m0 : Γ m0 ≠ 0 := by rw [tm]; decide
  obtain ⟨M19, M20⟩ := hPre
  have hl : lv_has ls 11 [(0, .ref m0), (1, .int p0), (2, .int p1), (3, .int p2)] := hl
  refine lv_aload_n (pc := 0) hx hb dX12_added_0 rfl (lv_at hl 0 rfl) ?_
  refine lv_iload_n (pc := 1) hx hb dX12_added_1 rfl (lv_at hl 1 rfl) ?_
  refine lv_iload_n (pc := 2) hx hb dX12_added_2 rfl (lv_at hl 2 rfl) ?_
  refine h_call (pc := 3) (dd := 242) (avs := [.ref m0, .int p0, .int p1]) (rs := []) X hI (COV (SX12_isAsked_0 l g) (by decide) vX12_315 rfl) ⟨Nat.le_refl _, Nat.le_refl _, Nat.le_refl _, Nat.le_refl _⟩ (by decide) hl.1 rfl rfl hU no_pf ⟨av_r t_m0 z_m0, avi_top _, avi_top _, trivial⟩ (fun _ => ⟨_, _, _, rfl, z_m0, (congrArg TS0.1 t_m0).trans rfl⟩) (md_sub (by decide)) (Nat.le_of_ble_eq_true rfl) dX12_added_3 (fun vr H locs hro hI hUn => ?_)
  have M19 := hUn.fld t_m0 (by decide) rfl (by decide) M19
  have M20 := hUn.fld t_m0 (by decide) rfl (by decide) M20
  obtain ⟨vhv1, rfl, hv1, imhv1⟩ := RO_some rfl hro
  obtain ⟨x3, rfl, -⟩ := avi_int rfl hv1
  obtain ⟨k2, rfl, lo_k2, hi_k2⟩ := avi_nn (lo := 0) (hi := 1) hv1
  refine lv_if_eq (tgt := 18) (pc := 6) hx hb dX12_added_6 rfl (fun c9 => ?_) (fun c9 => ?_)
  · refine lv_iconst (v := (-1)) (pc := 18) hx hb dX12_added_18 (by decide) ?_
    exact h_retM (Post := fun _ _ H1 => RMM g m0 H1) (pc := 19) X hI hQ hr ⟨M19, M20⟩ dX12_added_19
  · have b9 := bool_1 (by omega) c9
    obtain ⟨v9, e_v9, lo_v9, hi_v9⟩ := im_at (j := 1) (lo := 0) (hi := 9) imhv1 (show (1, 1, 1, vi 0 9) ∈ _ by first | exact List.mem_cons_self | exact List.mem_cons_of_mem _ List.mem_cons_self) rfl rfl rfl rfl rfl b9
    obtain ⟨n9, e_n9, lo_n9, hi_n9⟩ := im_at (j := 2) (lo := 0) (hi := 3) imhv1 (show (1, 1, 2, vi 0 3) ∈ _ by first | exact List.mem_cons_self | exact List.mem_cons_of_mem _ List.mem_cons_self) rfl rfl rfl rfl rfl b9
    subst e_v9
    subst e_n9
    refine lv_iload_n (pc := 9) hx hb dX12_added_9 rfl (lv_at hl 3 rfl) ?_
    refine lv_iconst (v := 0) (pc := 10) hx hb dX12_added_10 (by decide) ?_
    refine lv_iconst (v := 2) (pc := 11) hx hb dX12_added_11 (by decide) ?_
    refine h_call (pc := 12) (dd := 242) (avs := [.int p2, .int 0, .int 2]) (rs := []) X hI (COS (ci := 0) (SX12_isIn_13 l g) (by decide) vX12_198) ⟨Nat.le_refl _, Nat.le_refl _, Nat.le_refl _, Nat.le_refl _⟩ (by decide) hl.1 rfl rfl hU no_pf ⟨avi_top _, avi_nI (lo := 0) (hi := 0) (k := 0) (by omega) (by omega) (by decide), avi_nI (lo := 2) (hi := 2) (k := 2) (by omega) (by omega) (by decide), trivial⟩ (fun h => by cases h) (md_sub (by decide)) (Nat.le_of_ble_eq_true rfl) dX12_added_12 (fun vr H locs hro hI hUn => ?_)
    have M19 := hUn.fld t_m0 (by decide) rfl (by decide) M19
    have M20 := hUn.fld t_m0 (by decide) rfl (by decide) M20
    obtain ⟨vhv4, rfl, hv4, imhv4⟩ := RO_some rfl hro
    obtain ⟨x6, rfl, -⟩ := avi_int rfl hv4
    obtain ⟨k5, rfl, lo_k5, hi_k5⟩ := avi_nn (lo := 0) (hi := 1) hv4
    refine lv_if_ne (tgt := 20) (pc := 15) hx hb dX12_added_15 rfl (fun c7 => ?_) (fun c7 => ?_)
    · refine lv_bipush (v := 25) (pc := 20) hx hb dX12_added_20 (by decide) ?_
      refine lv_aload_n (pc := 22) hx hb dX12_added_22 rfl (lv_at hl 0 rfl) ?_
      refine lv_iload_n (pc := 23) hx hb dX12_added_23 rfl (lv_at hl 1 rfl) ?_
      refine lv_iload_n (pc := 24) hx hb dX12_added_24 rfl (lv_at hl 2 rfl) ?_
      refine lv_iconst (v := 1) (pc := 25) hx hb dX12_added_25 (by decide) ?_
      refine h_call (pc := 26) (dd := 242) (avs := [.ref m0, .int (nI v9), .int (nI n9), .int 1]) (rs := [.int 25]) X hI (COV (SX12_leastFrom_0 l g) (by decide) vX12_318 rfl) ⟨Nat.le_refl _, Nat.le_refl _, Nat.le_refl _, Nat.le_refl _⟩ (by decide) hl.1 rfl rfl hU no_pf ⟨av_r t_m0 z_m0, avi_nI (lo := 0) (hi := 9) (k := v9) (by omega) (by omega) (by decide), avi_nI (lo := 0) (hi := 3) (k := n9) (by omega) (by omega) (by decide), avi_nI (lo := 1) (hi := 24) (k := 1) (by omega) (by omega) (by decide), trivial⟩ (fun _ => ⟨_, _, _, rfl, z_m0, (congrArg TS0.1 t_m0).trans rfl⟩) (md_sub (by decide)) (Nat.le_of_ble_eq_true rfl) dX12_added_26 (fun vr H locs hro hI hUn => ?_)
      have M19 := hUn.fld t_m0 (by decide) rfl (by decide) M19
      have M20 := hUn.fld t_m0 (by decide) rfl (by decide) M20
      obtain ⟨vhv8, rfl, hv8, imhv8⟩ := RO_some rfl hro
      obtain ⟨x10, rfl, -⟩ := avi_int rfl hv8
      obtain ⟨k9, rfl, lo_k9, hi_k9⟩ := avi_nn (lo := 0) (hi := 99) hv8
      refine va_mmin (pc := 29) hx hb (X.2.2.1.trans hl.1.symm) X.2.2.2.1 (X.2.2.2.2.1 _ mm_X12_29) (X.2.2.2.2.1 _ mms_min) (X.2.2.2.2.1 _ m_19) (X.2.2.2.2.1 _ mmc_min) (Nat.le_of_ble_eq_true rfl) (Nat.le_of_ble_eq_true rfl) (Nat.le_of_ble_eq_true rfl) (Nat.le_of_ble_eq_true rfl) dX12_added_29 ?_
      refine lv_topi (fun v11 ev11 => ?_)
      refine lv_istore (lv' := [(4, .int v11), (0, .ref m0), (1, .int (nI v9)), (2, .int (nI n9)), (3, .int p2)]) (pc := 32) hx hb dX12_added_32 hl (by decide) rfl (fun ls hl => ?_)
      refine lv_iconst (v := (-1)) (pc := 34) hx hb dX12_added_34 (by decide) ?_
      refine lv_istore (lv' := [(5, .int (-1)), (4, .int v11), (0, .ref m0), (1, .int (nI v9)), (2, .int (nI n9)), (3, .int p2)]) (pc := 35) hx hb dX12_added_35 hl (by decide) rfl (fun ls hl => ?_)
      refine lv_iconst (v := (-1)) (pc := 37) hx hb dX12_added_37 (by decide) ?_
      refine lv_istore (lv' := [(6, .int (-1)), (5, .int (-1)), (4, .int v11), (0, .ref m0), (1, .int (nI v9)), (2, .int (nI n9)), (3, .int p2)]) (pc := 38) hx hb dX12_added_38 hl (by decide) rfl (fun ls hl => ?_)
      refine lv_bipush (v := 99) (pc := 40) hx hb dX12_added_40 (by decide) ?_
      refine lv_istore (lv' := [(7, .int 99), (6, .int (-1)), (5, .int (-1)), (4, .int v11), (0, .ref m0), (1, .int (nI v9)), (2, .int (nI n9)), (3, .int p2)]) (pc := 42) hx hb dX12_added_42 hl (by decide) rfl (fun ls hl => ?_)
      refine lv_iconst (v := 0) (pc := 44) hx hb dX12_added_44 (by decide) ?_
      refine lv_istore (lv' := [(8, .int 0), (7, .int 99), (6, .int (-1)), (5, .int (-1)), (4, .int v11), (0, .ref m0), (1, .int (nI v9)), (2, .int (nI n9)), (3, .int p2)]) (pc := 45) hx hb dX12_added_45 hl (by decide) rfl (fun ls hl => ?_)
      have loopA : ∀ (n : Nat) (x5 : Int32) (x6 : Int32) (x7 : Int32) (i : Nat), (i + n = 9) → (i ≤ 8) → ∀ (H : Heap) (locs : List Loc) (ls : Array Slot), HI g TS0 Γ pX12_added_0.2.2.2.2.1 s H locs → (FE g m0 12 19 H (.int (-1))) → (FE g m0 12 20 H (.int (-1))) → lv_has ls 11 [(0, .ref m0), (1, .int (nI v9)), (2, .int (nI n9)), (3, .int p2), (4, .int v11), (5, .int x5), (6, .int x6), (7, .int x7), (8, .int (nI i))] → W p l e (RM 242 0 0) s m [Value.ref m0, Value.int (nI v9), Value.int (nI n9), Value.int p2].toArray below meth c H locs 0 0 Q (F0 m 47 ls []) := by
        intro n
        induction n with
        | zero =>
          intro x5 x6 x7 i h1 h2 H locs ls hI M19 M20 hl
          omega
        | succ n ihA =>
          intro x5 x6 x7 i h1 h2 H locs ls hI M19 M20 hl
          refine lv_iload (pc := 47) hx hb dX12_added_47 (lv_at hl 8 rfl) ?_
          refine lv_aload_n (pc := 49) hx hb dX12_added_49 rfl (lv_at hl 0 rfl) ?_
          refine h_get (pc := 50) X hI.1 (hFX12 13 _ rfl) z_m0 ((congrArg TS0.1 t_m0).trans rfl) rfl dX12_added_50 (fun vhv12 hv12 hEhv12 => ?_)
          obtain ⟨q13, rfl, t_q13, z_q13⟩ := avi_ref rfl hv12
          have t_q13 : Γ q13 = 62 := t_q13
          refine lv_iload_n (pc := 53) hx hb dX12_added_53 rfl (lv_at hl 1 rfl) ?_
          refine h_iald (pc := 54) X hI.1 z_q13 ((congrArg TS0.1 t_q13).trans rfl) (avi_nI (lo := 0) (hi := 10) (k := v9) (Nat.zero_le _) (by omega) (by decide)) (by decide) (by decide) dX12_added_54 (fun vhv14 hv14 hEhv14 => ?_)
          obtain ⟨x16, rfl, -⟩ := avi_int rfl hv14
          obtain ⟨k15, rfl, lo_k15, hi_k15⟩ := avi_nn (lo := 0) (hi := 7) hv14
          refine lv_icmp_ge (tgt := 160) (pc := 55) hx hb dX12_added_55 rfl (fun c9 => ?_) (fun c9 => ?_)
          · refine lv_iload (pc := 160) hx hb dX12_added_160 (lv_at hl 5 rfl) ?_
            refine lv_iconst (v := (-1)) (pc := 162) hx hb dX12_added_162 (by decide) ?_
            refine lv_icmp_ne (tgt := 170) (pc := 163) hx hb dX12_added_163 rfl (fun c17 => ?_) (fun c17 => ?_)
            · refine lv_iload_n (pc := 170) hx hb dX12_added_170 rfl (lv_at hl 3 rfl) ?_
              refine lv_if_ne (tgt := 179) (pc := 171) hx hb dX12_added_171 rfl (fun c18 => ?_) (fun c18 => ?_)
              · refine lv_iload_n (pc := 179) hx hb dX12_added_179 rfl (lv_at hl 3 rfl) ?_
                refine lv_iconst (v := 1) (pc := 180) hx hb dX12_added_180 (by decide) ?_
                refine lv_icmp_ne (tgt := 189) (pc := 181) hx hb dX12_added_181 rfl (fun c19 => ?_) (fun c19 => ?_)
                · refine lv_iload (pc := 189) hx hb dX12_added_189 (lv_at hl 4 rfl) ?_
                  refine lv_iload (pc := 191) hx hb dX12_added_191 (lv_at hl 7 rfl) ?_
                  refine lv_isub (pc := 193) hx hb dX12_added_193 ?_
                  exact h_retM (Post := fun _ _ H1 => RMM g m0 H1) (pc := 194) X hI hQ hr ⟨M19, M20⟩ dX12_added_194
                · refine lv_iload (pc := 184) hx hb dX12_added_184 (lv_at hl 6 rfl) ?_
                  refine lv_goto (tgt := 194) (pc := 186) hx hb dX12_added_186 rfl ?_
                  exact h_retM (Post := fun _ _ H1 => RMM g m0 H1) (pc := 194) X hI hQ hr ⟨M19, M20⟩ dX12_added_194
              · refine lv_iload (pc := 174) hx hb dX12_added_174 (lv_at hl 5 rfl) ?_
                refine lv_goto (tgt := 194) (pc := 176) hx hb dX12_added_176 rfl ?_
                exact h_retM (Post := fun _ _ H1 => RMM g m0 H1) (pc := 194) X hI hQ hr ⟨M19, M20⟩ dX12_added_194
            · refine lv_iconst (v := (-1)) (pc := 166) hx hb dX12_added_166 (by decide) ?_
              refine lv_goto (tgt := 194) (pc := 167) hx hb dX12_added_167 rfl ?_
              exact h_retM (Post := fun _ _ H1 => RMM g m0 H1) (pc := 194) X hI hQ hr ⟨M19, M20⟩ dX12_added_194
          · have i9i : i < k15 := (nI_ltI (by omega) (by omega)).mp (Int32.not_le.mp c9)
            refine lv_iload (pc := 58) hx hb dX12_added_58 (lv_at hl 8 rfl) ?_
            refine lv_iconst (v := 1) (pc := 60) hx hb dX12_added_60 (by decide) ?_
            refine lv_iadd (pc := 61) hx hb dX12_added_61 ?_
            refine lv_topi (fun v20 ev20 => ?_)
            obtain rfl : v20 = nI (i + 1) := ev20.trans ((nI_succ i).symm)
            refine lv_istore (lv' := [(9, .int (nI (i + 1))), (0, .ref m0), (1, .int (nI v9)), (2, .int (nI n9)), (3, .int p2), (4, .int v11), (5, .int x5), (6, .int x6), (7, .int x7), (8, .int (nI i))]) (pc := 62) hx hb dX12_added_62 hl (by decide) rfl (fun ls hl => ?_)
            have loopB : ∀ (mm : Nat) (y5 : Int32) (y6 : Int32) (y7 : Int32) (j : Nat), (j + mm = 9) → (j ≤ 8) → (1 ≤ j) → ∀ (H : Heap) (locs : List Loc) (ls : Array Slot), HI g TS0 Γ pX12_added_0.2.2.2.2.1 s H locs → (FE g m0 12 19 H (.int (-1))) → (FE g m0 12 20 H (.int (-1))) → lv_has ls 11 [(0, .ref m0), (1, .int (nI v9)), (2, .int (nI n9)), (3, .int p2), (4, .int v11), (5, .int y5), (6, .int y6), (7, .int y7), (8, .int (nI i)), (9, .int (nI j))] → W p l e (RM 242 0 0) s m [Value.ref m0, Value.int (nI v9), Value.int (nI n9), Value.int p2].toArray below meth c H locs 0 0 Q (F0 m 64 ls []) := by
              intro mm
              induction mm with
              | zero =>
                intro y5 y6 y7 j h3 h4 h5 H locs ls hI M19 M20 hl
                omega
              | succ mm ihB =>
                intro y5 y6 y7 j h3 h4 h5 H locs ls hI M19 M20 hl
                refine lv_iload (pc := 64) hx hb dX12_added_64 (lv_at hl 9 rfl) ?_
                refine lv_aload_n (pc := 66) hx hb dX12_added_66 rfl (lv_at hl 0 rfl) ?_
                refine h_get (pc := 67) X hI.1 (hFX12 13 _ rfl) z_m0 ((congrArg TS0.1 t_m0).trans rfl) rfl dX12_added_67 (fun vhv21 hv21 hEhv21 => ?_)
                obtain ⟨q22, rfl, t_q22, z_q22⟩ := avi_ref rfl hv21
                have t_q22 : Γ q22 = 62 := t_q22
                refine lv_iload_n (pc := 70) hx hb dX12_added_70 rfl (lv_at hl 1 rfl) ?_
                refine h_iald (pc := 71) X hI.1 z_q22 ((congrArg TS0.1 t_q22).trans rfl) (avi_nI (lo := 0) (hi := 10) (k := v9) (Nat.zero_le _) (by omega) (by decide)) (by decide) (by decide) dX12_added_71 (fun vhv23 hv23 hEhv23 => ?_)
                obtain ⟨x25, rfl, -⟩ := avi_int rfl hv23
                obtain ⟨k24, rfl, lo_k24, hi_k24⟩ := avi_nn (lo := 0) (hi := 7) hv23
                refine lv_icmp_ge (tgt := 154) (pc := 72) hx hb dX12_added_72 rfl (fun c9 => ?_) (fun c9 => ?_)
                · refine lv_iinc (v := nI (i + 1)) (lv' := [(8, .int (nI (i + 1))), (0, .ref m0), (1, .int (nI v9)), (2, .int (nI n9)), (3, .int p2), (4, .int v11), (5, .int y5), (6, .int y6), (7, .int y7), (9, .int (nI j))]) (pc := 154) hx hb dX12_added_154 hl (k := 8) rfl ((nI_succ i).symm) (by decide) rfl (fun ls hl => ?_)
                  refine lv_goto (tgt := 47) (pc := 157) hx hb dX12_added_157 rfl ?_
                  exact ihA y5 y6 y7 (i + 1) (by omega) (by omega) _ _ _ hI M19 M20 (lv_sub hl [1, 2, 3, 4, 5, 6, 7, 8, 0] rfl)
                · have i9j : j < k24 := (nI_ltI (by omega) (by omega)).mp (Int32.not_le.mp c9)
                  refine lv_aload_n (pc := 75) hx hb dX12_added_75 rfl (lv_at hl 0 rfl) ?_
                  refine lv_iload_n (pc := 76) hx hb dX12_added_76 rfl (lv_at hl 1 rfl) ?_
                  refine lv_iload (pc := 77) hx hb dX12_added_77 (lv_at hl 8 rfl) ?_
                  refine lv_iload (pc := 79) hx hb dX12_added_79 (lv_at hl 9 rfl) ?_
                  refine h_call (pc := 81) (dd := 242) (avs := [.ref m0, .int (nI v9), .int (nI i), .int (nI j)]) (rs := []) X hI (COV (SX12_hasLine_0 l g) (by decide) vX12_331 rfl) ⟨Nat.le_refl _, Nat.le_refl _, Nat.le_refl _, Nat.le_refl _⟩ (by decide) hl.1 rfl rfl hU no_pf ⟨av_r t_m0 z_m0, avi_nI (lo := 0) (hi := 9) (k := v9) (by omega) (by omega) (by decide), avi_nI (lo := 0) (hi := 6) (k := i) (by omega) (by omega) (by decide), avi_nI (lo := 1) (hi := 6) (k := j) (by omega) (by omega) (by decide), trivial⟩ (fun _ => ⟨_, _, _, rfl, z_m0, (congrArg TS0.1 t_m0).trans rfl⟩) (md_sub (by decide)) (Nat.le_of_ble_eq_true rfl) dX12_added_81 (fun vr H locs hro hI hUn => ?_)
                  have M19 := hUn.fld t_m0 (by decide) rfl (by decide) M19
                  have M20 := hUn.fld t_m0 (by decide) rfl (by decide) M20
                  obtain ⟨vhv26, rfl, hv26, imhv26⟩ := RO_some rfl hro
                  obtain ⟨x28, rfl, -⟩ := avi_int rfl hv26
                  obtain ⟨k27, rfl, lo_k27, hi_k27⟩ := avi_nn (lo := 0) (hi := 1) hv26
                  refine lv_if_eq (tgt := 90) (pc := 84) hx hb dX12_added_84 rfl (fun c29 => ?_) (fun c29 => ?_)
                  · refine lv_aload_n (pc := 90) hx hb dX12_added_90 rfl (lv_at hl 0 rfl) ?_
                    refine lv_iload (pc := 91) hx hb dX12_added_91 (lv_at hl 8 rfl) ?_
                    refine h_put (pc := 93) (b := vj (-1) 6) X hI (hFX12 51 _ rfl) z_m0 ((congrArg TS0.1 t_m0).trans rfl) rfl rfl (avle_ok (a := vi 0 6) (by decide) (avi_nI (lo := 0) (hi := 6) (k := i) (by omega) (by omega) (by decide))) (by decide) (by decide) (by rw [t_m0]; decide) dX12_added_93 (fun H locs hI hUn hEp => ?_)
                    rw [t_m0] at hUn
                    have M20 := hUn.fld t_m0 (by decide) rfl (by decide) M20
                    refine lv_aload_n (pc := 96) hx hb dX12_added_96 rfl (lv_at hl 0 rfl) ?_
                    refine lv_iload (pc := 97) hx hb dX12_added_97 (lv_at hl 9 rfl) ?_
                    refine h_put (pc := 99) (b := vj (-1) 6) X hI (hFX12 55 _ rfl) z_m0 ((congrArg TS0.1 t_m0).trans rfl) rfl rfl (avle_ok (a := vi 0 6) (by decide) (avi_nI (lo := 0) (hi := 6) (k := j) (by omega) (by omega) (by decide))) (by decide) (by decide) (by rw [t_m0]; decide) dX12_added_99 (fun H locs hI hUn hEp => ?_)
                    rw [t_m0] at hUn
                    refine lv_bipush (v := 25) (pc := 102) hx hb dX12_added_102 (by decide) ?_
                    refine lv_aload_n (pc := 104) hx hb dX12_added_104 rfl (lv_at hl 0 rfl) ?_
                    refine lv_iload_n (pc := 105) hx hb dX12_added_105 rfl (lv_at hl 1 rfl) ?_
                    refine lv_iload_n (pc := 106) hx hb dX12_added_106 rfl (lv_at hl 2 rfl) ?_
                    refine lv_iconst (v := 1) (pc := 107) hx hb dX12_added_107 (by decide) ?_
                    refine h_call (pc := 108) (dd := 242) (avs := [.ref m0, .int (nI v9), .int (nI n9), .int 1]) (rs := [.int 25]) X hI (COV (SX12_leastFrom_0 l g) (by decide) vX12_318 rfl) ⟨Nat.le_refl _, Nat.le_refl _, Nat.le_refl _, Nat.le_refl _⟩ (by decide) hl.1 rfl rfl hU no_pf ⟨av_r t_m0 z_m0, avi_nI (lo := 0) (hi := 9) (k := v9) (by omega) (by omega) (by decide), avi_nI (lo := 0) (hi := 3) (k := n9) (by omega) (by omega) (by decide), avi_nI (lo := 1) (hi := 24) (k := 1) (by omega) (by omega) (by decide), trivial⟩ (fun _ => ⟨_, _, _, rfl, z_m0, (congrArg TS0.1 t_m0).trans rfl⟩) (md_sub (by decide)) (Nat.le_of_ble_eq_true rfl) dX12_added_108 (fun vr H locs hro hI hUn => ?_)
                    obtain ⟨vhv30, rfl, hv30, imhv30⟩ := RO_some rfl hro
                    obtain ⟨x32, rfl, -⟩ := avi_int rfl hv30
                    obtain ⟨k31, rfl, lo_k31, hi_k31⟩ := avi_nn (lo := 0) (hi := 99) hv30
                    refine va_mmin (pc := 111) hx hb (X.2.2.1.trans hl.1.symm) X.2.2.2.1 (X.2.2.2.2.1 _ mm_X12_111) (X.2.2.2.2.1 _ mms_min) (X.2.2.2.2.1 _ m_19) (X.2.2.2.2.1 _ mmc_min) (Nat.le_of_ble_eq_true rfl) (Nat.le_of_ble_eq_true rfl) (Nat.le_of_ble_eq_true rfl) (Nat.le_of_ble_eq_true rfl) dX12_added_111 ?_
                    refine lv_topi (fun v33 ev33 => ?_)
                    refine lv_istore (lv' := [(10, .int v33), (0, .ref m0), (1, .int (nI v9)), (2, .int (nI n9)), (3, .int p2), (4, .int v11), (5, .int y5), (6, .int y6), (7, .int y7), (8, .int (nI i)), (9, .int (nI j))]) (pc := 114) hx hb dX12_added_114 hl (by decide) rfl (fun ls hl => ?_)
                    refine lv_aload_n (pc := 116) hx hb dX12_added_116 rfl (lv_at hl 1 rfl) ?_
                    refine lv_iconst (v := (-1)) (pc := 117) hx hb dX12_added_117 (by decide) ?_
                    refine h_put (pc := 118) (b := vj (-1) 6) X hI (hFX12 51 _ rfl) z_m0 ((congrArg TS0.1 t_m0).trans rfl) rfl rfl (⟨rfl, by decide, by decide⟩) (by decide) (by decide) (by rw [t_m0]; decide) dX12_added_118 (fun H locs hI hUn hEp => ?_)
                    rw [t_m0] at hUn
                    have M19 := hEp
                    refine lv_aload_n (pc := 121) hx hb dX12_added_121 rfl (lv_at hl 1 rfl) ?_
                    refine lv_iconst (v := (-1)) (pc := 122) hx hb dX12_added_122 (by decide) ?_
                    refine h_put (pc := 123) (b := vj (-1) 6) X hI (hFX12 55 _ rfl) z_m0 ((congrArg TS0.1 t_m0).trans rfl) rfl rfl (⟨rfl, by decide, by decide⟩) (by decide) (by decide) (by rw [t_m0]; decide) dX12_added_123 (fun H locs hI hUn hEp => ?_)
                    rw [t_m0] at hUn
                    have M19 := hUn.fld t_m0 (by decide) rfl (by decide) M19
                    have M20 := hEp
                    refine lv_iload (pc := 126) hx hb dX12_added_126 (lv_at hl 0 rfl) ?_
                    refine lv_iload (pc := 128) hx hb dX12_added_128 (lv_at hl 8 rfl) ?_
                    refine lv_icmp_lt (tgt := 136) (pc := 130) hx hb dX12_added_130 rfl (fun c34 => ?_) (fun c34 => ?_)
                    · refine lv_iload (pc := 136) hx hb dX12_added_136 (lv_at hl 0 rfl) ?_
                      refine lv_istore (lv' := [(7, .int v33), (10, .int v33), (0, .ref m0), (1, .int (nI v9)), (2, .int (nI n9)), (3, .int p2), (4, .int v11), (5, .int y5), (6, .int y6), (8, .int (nI i)), (9, .int (nI j))]) (pc := 138) hx hb dX12_added_138 hl (by decide) rfl (fun ls hl => ?_)
                      refine lv_iload (pc := 140) hx hb dX12_added_140 (lv_at hl 9 rfl) ?_
                      refine lv_istore (lv' := [(5, .int (nI i)), (7, .int v33), (10, .int v33), (0, .ref m0), (1, .int (nI v9)), (2, .int (nI n9)), (3, .int p2), (4, .int v11), (6, .int y6), (8, .int (nI i)), (9, .int (nI j))]) (pc := 142) hx hb dX12_added_142 hl (by decide) rfl (fun ls hl => ?_)
                      refine lv_iload (pc := 144) hx hb dX12_added_144 (lv_at hl 10 rfl) ?_
                      refine lv_istore (lv' := [(6, .int (nI j)), (5, .int (nI i)), (7, .int v33), (10, .int v33), (0, .ref m0), (1, .int (nI v9)), (2, .int (nI n9)), (3, .int p2), (4, .int v11), (8, .int (nI i)), (9, .int (nI j))]) (pc := 146) hx hb dX12_added_146 hl (by decide) rfl (fun ls hl => ?_)
                      refine lv_iinc (v := nI (j + 1)) (lv' := [(9, .int (nI (j + 1))), (6, .int (nI j)), (5, .int (nI i)), (7, .int v33), (10, .int v33), (0, .ref m0), (1, .int (nI v9)), (2, .int (nI n9)), (3, .int p2), (4, .int v11), (8, .int (nI i))]) (pc := 148) hx hb dX12_added_148 hl (k := 10) rfl ((nI_succ j).symm) (by decide) rfl (fun ls hl => ?_)
                      refine lv_goto (tgt := 64) (pc := 151) hx hb dX12_added_151 rfl ?_
                      exact ihB (nI i) (nI j) v33 (j + 1) (by omega) (by omega) (by omega) _ _ _ hI M19 M20 (lv_sub hl [5, 6, 7, 8, 9, 2, 1, 3, 10, 0] rfl)
                    · refine lv_goto (tgt := 148) (pc := 133) hx hb dX12_added_133 rfl ?_
                      refine lv_iinc (v := nI (j + 1)) (lv' := [(9, .int (nI (j + 1))), (10, .int v33), (0, .ref m0), (1, .int (nI v9)), (2, .int (nI n9)), (3, .int p2), (4, .int v11), (5, .int y5), (6, .int y6), (7, .int y7), (8, .int (nI i))]) (pc := 148) hx hb dX12_added_148 hl (k := 10) rfl ((nI_succ j).symm) (by decide) rfl (fun ls hl => ?_)
                      refine lv_goto (tgt := 64) (pc := 151) hx hb dX12_added_151 rfl ?_
                      exact ihB y5 y6 y7 (j + 1) (by omega) (by omega) (by omega) _ _ _ hI M19 M20 (lv_sub hl [2, 3, 4, 5, 6, 7, 8, 9, 10, 0] rfl)
                  · refine lv_goto (tgt := 148) (pc := 87) hx hb dX12_added_87 rfl ?_
                    refine lv_iinc (v := nI (j + 1)) (lv' := [(9, .int (nI (j + 1))), (0, .ref m0), (1, .int (nI v9)), (2, .int (nI n9)), (3, .int p2), (4, .int v11), (5, .int y5), (6, .int y6), (7, .int y7), (8, .int (nI i))]) (pc := 148) hx hb dX12_added_148 hl (k := 9) rfl ((nI_succ j).symm) (by decide) rfl (fun ls hl => ?_)
                    refine lv_goto (tgt := 64) (pc := 151) hx hb dX12_added_151 rfl ?_
                    exact ihB y5 y6 y7 (j + 1) (by omega) (by omega) (by omega) _ _ _ hI M19 M20 (lv_sub hl [1, 2, 3, 4, 5, 6, 7, 8, 9, 0] rfl)
            exact loopB (8 - i) x5 x6 x7 (i + 1) (by omega) (by omega) (by omega) _ _ _ hI M19 M20 (lv_sub hl [1, 2, 3, 4, 5, 6, 7, 8, 9, 0] rfl)
      exact loopA 9 (-1) (-1) 99 0 (by decide) (by decide) _ _ _ hI M19 M20 (lv_sub hl [5, 6, 7, 8, 4, 3, 2, 1, 0] rfl)
    · refine lv_iconst (v := (-1)) (pc := 18) hx hb dX12_added_18 (by decide) ?_
      exact h_retM (Post := fun _ _ H1 => RMM g m0 H1) (pc := 19) X hI hQ hr ⟨M19, M20⟩ dX12_added_19
theorem E12_addedM {l : Launch} {g : GG} {Γ : Nat → Nat} {m0 : Nat} (hU : UQ TS0 Γ) (tm : Γ m0 = 60) (p0 p1 p2 : Int32) : EX l g yX12_added cX12_added 11 (some .int) pX12_added_0 Γ [.ref m0, .int p0, .int p1, .int p2] (fun H => RMM g m0 H) (fun _ _ H1 => RMM g m0 H1) :=
  EX_mm (SX12_added_0 l g) hU ⟨av_ref tm (by decide), avi_top _, avi_top _, avi_top _, trivial⟩ rfl (Q12_added l g hU m0 p0 p1 p2 tm)

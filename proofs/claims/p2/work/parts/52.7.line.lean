theorem hl_im {g : GG} {Γ : Nat → Nat} {As : List Value} {b : Int32} {v : Value} (him : ∀ q ∈ pX10_hasLine_0.2.2.2.1, ∀ x : Int32, Value.int b = .int x → q.1 ≤ x.toInt → x.toInt ≤ q.2.1 → ∃ u, As[q.2.2.1]? = some u ∧ avi g Γ q.2.2.2 u) (e : As[1]? = some v) (h0 : (0 : Int) ≤ b.toInt) (h1 : b.toInt ≤ (1 : Int)) (hn : ¬ b = 0) : avi g Γ (vi 0 11) v := by
  have hb : b.toInt = 1 := by
    rcases bool_01 h0 h1 with h | h
    · exact absurd h hn
    · rw [h]; rfl
  obtain ⟨u, h2, h3⟩ := him (1, 1, 1, vi 0 11) List.mem_cons_self b rfl (by rw [hb]; exact Int.le_refl _) (by rw [hb]; exact Int.le_refl _)
  rw [show ((1, 1, 1, vi 0 11) : Int × Int × Nat × AV).2.2.1 = 1 from rfl, e] at h2
  cases h2
  exact h3
theorem i32_06 {x : Int32} (h0 : ¬ x < 0) (h1 : x < 6) : x = 0 ∨ x = 1 ∨ x = 2 ∨ x = 3 ∨ x = 4 ∨ x = 5 := by
  have h0 : (0 : Int32).toInt ≤ x.toInt := Int32.le_iff_toInt_le.mp (Int32.not_lt.mp h0)
  have h1 : x.toInt < (6 : Int32).toInt := Int32.lt_iff_toInt_lt.mp h1
  have e0 : (0 : Int32).toInt = 0 := rfl
  have e6 : (6 : Int32).toInt = 6 := rfl
  have : x.toInt = 0 ∨ x.toInt = 1 ∨ x.toInt = 2 ∨ x.toInt = 3 ∨ x.toInt = 4 ∨ x.toInt = 5 := by omega
  rcases this with h | h | h | h | h | h
  · exact Or.inl (Int32.toInt_inj.mp h)
  · exact Or.inr (Or.inl (Int32.toInt_inj.mp h))
  · exact Or.inr (Or.inr (Or.inl (Int32.toInt_inj.mp h)))
  · exact Or.inr (Or.inr (Or.inr (Or.inl (Int32.toInt_inj.mp h))))
  · exact Or.inr (Or.inr (Or.inr (Or.inr (Or.inl (Int32.toInt_inj.mp h)))))
  · exact Or.inr (Or.inr (Or.inr (Or.inr (Or.inr (Int32.toInt_inj.mp h)))))
def LPRE (g : GG) (x0 m0 : Nat) (Γ : Nat → Nat) (sz : Nat) (As : List Value) : State → Prop := fun U => U.heap.size = sz ∧ SPRE g TS0 Γ As [] U ∧ LF g x0 m0 Γ U.heap ∧ THR (AA Γ sz) U U.heap
theorem LPRE.blind {g : GG} {x0 m0 sz : Nat} {Γ : Nat → Nat} {As Bs : List Value} : FrameBlind (va_Pc As (LPRE g x0 m0 Γ sz Bs)) := by
  intro a U f mk q
  obtain ⟨q0, q1, q2, q3, q4, q5, q6⟩ := q
  have h := GPRE.blind (g := g) (x0 := x0) (m0 := m0) (sz := sz) (Γ := Γ) (As := As) (Bs := Bs) a U f mk ⟨q0, q1, q2, q3⟩
  exact ⟨h.1, h.2.1, h.2.2.1, h.2.2.2, vx_Zq.moved (u := U) (U := U.calling f mk a) (Vm.Alike.refl U.vm) q4, vx_Zq.moved (u := U) (U := U.calling f mk a) (Vm.Alike.refl U.vm) q5, va_Nw.same rfl rfl q6.1, va_Nw.same rfl rfl q6.2.1, va_Nw.same rfl rfl q6.2.2.1, va_Nw.same rfl rfl q6.2.2.2⟩
abbrev LB (g : GG) (x0 m0 : Nat) (Γ : Nat → Nat) : State → Prop := fun t => HT g TS0 Γ t.heap ∧ LF g x0 m0 Γ t.heap
theorem dX11_line_12 : decode cX11_line 12 = .ok (.aload 4, 2) := by decide +kernel
theorem dX11_line_14 : decode cX11_line 14 = .ok (.iload_n 2, 1) := by decide +kernel
theorem dX11_line_15 : decode cX11_line 15 = .ok (.invokevirtual 124, 3) := by decide +kernel
theorem dX11_line_18 : decode cX11_line 18 = .ok (.ifCond .eq 13, 3) := by decide +kernel
theorem dX11_line_21 : decode cX11_line 21 = .ok (.iload_n 3, 1) := by decide +kernel
theorem dX11_line_22 : decode cX11_line 22 = .ok (.ifCond .lt 9, 3) := by decide +kernel
theorem dX11_line_25 : decode cX11_line 25 = .ok (.iload_n 3, 1) := by decide +kernel
theorem dX11_line_26 : decode cX11_line 26 = .ok (.bipush 6, 2) := by decide +kernel
theorem dX11_line_28 : decode cX11_line 28 = .ok (.if_icmp .lt 11, 3) := by decide +kernel
theorem dX11_line_39 : decode cX11_line 39 = .ok (.aload 4, 2) := by decide +kernel
theorem dX11_line_41 : decode cX11_line 41 = .ok (.iload_n 2, 1) := by decide +kernel
theorem dX11_line_42 : decode cX11_line 42 = .ok (.iload_n 3, 1) := by decide +kernel
theorem m_1222 : (Cond.methodLink "NoonValley" 130 yX10_lineFact) ∈ BW := bw (tb6 22 (by decide +kernel)) (by decide +kernel)
theorem vX11_130 : LV RX11 130 RX10 yX10_lineFact cX10_lineFact 3 (some .int) 2 := ⟨m_1222, m_498, m_499, m_11, m_500, rfl, by decide, by decide, by decide +kernel⟩
theorem dX11_line_43 : decode cX11_line 43 = .ok (.invokevirtual 130, 3) := by decide +kernel
theorem dX11_line_46 : decode cX11_line 46 = .ok (.ireturn, 1) := by decide +kernel
set_option maxHeartbeats 4000000 in
set_option maxRecDepth 100000 in
theorem GX11_line (l : Launch) (hfl : l.stackTraces = false) (g : GG) (x0 m0 : Nat) (p0 p1 p2 : Int32) (Γ : Nat → Nat) (sz : Nat) (hU : UQ TS0 Γ) : vx_Met l yX11_line (WW yX11_line cX11_line 5 (some .int)) (RM 7 1 6) (va_Pc [.ref x0, .int p0, .int p1, .int p2] (LPRE g x0 m0 Γ sz [.ref x0, .int p0, .int p1, .int p2])) (va_Qi (fun (_ : Int32) (_ : Unit) => True) (fun _ t => LB g x0 m0 Γ t) (AA Γ sz)) (vx_X (fun _ : Unit => True) (fun E _ t => E = XNN ∧ LB g x0 m0 Γ t) (AA Γ sz)) 1 6 (AA Γ sz) := by
  refine vx_ofW (cc := cX11_line) (maxL := 5) (ret := (some .int)) (by decide) rfl ?_
  intro p e s m args below meth c s₁ B hml htab hv
  obtain ⟨rfl, hsz, ⟨hT, hK, hTB, -⟩, hL, hTh⟩ := hv
  subst hsz
  have hts := atoms_spec (ws := WW yX11_line cX11_line 5 (some .int)) B.pre
  have hl := lv_entry ([.ref x0, .int p0, .int p1, .int p2]) (n := 5) (Nat.le_of_ble_eq_true rfl)
  rw [lg_entry_eq]
  generalize (lg_sl ([.ref x0, .int p0, .int p1, .int p2]) ++ List.replicate (5 - (lg_sl ([.ref x0, .int p0, .int p1, .int p2])).length) Slot.unset).toArray = ls at hl ⊢
  have hl : lv_has ls 5 [(0, .ref x0), (1, .int p0), (2, .int p1), (3, .int p2)] := hl
  have X : CTX p l m meth c cX11_line 5 s _ RX11 g (AA Γ s.heap.size) := ⟨B.exec, B.bytes, hml, findClass_of_methodNamed B.named, fun w h => hts w (List.mem_cons_of_mem _ h), hK, hTB, fun q h => Or.inr h, B.notSynchronized⟩
  have hF : FR g (AA Γ s.heap.size) s Γ s.heap [] := ⟨hT, hU, fun q h => Or.inl h, va_S.rf⟩
  have hx := X.1
  have hb := X.2.1
  refine lv_aload_n (pc := 0) hx hb dX11_line_0 rfl (lv_at hl 0 rfl) ?_
  refine lv_iload_n (pc := 1) hx hb dX11_line_1 rfl (lv_at hl 1 rfl) ?_
  refine f_callV (pc := 2) (ci := 11) (As := [.int p0]) (rs := []) X hF (SX11_valleyAt_0 l g) vX11_101 rfl (by rw [hL.1]; decide) ((congrArg TS0.1 hL.1).trans rfl) ⟨av_ref hL.1 (by decide), avi_top p0, trivial⟩ rfl rfl hl.1 rfl (Nat.le_of_ble_eq_true rfl) ⟨Nat.le_of_ble_eq_true rfl, Nat.le_of_ble_eq_true rfl⟩ ⟨Nat.le_of_ble_eq_true rfl, Nat.le_of_ble_eq_true rfl⟩ dX11_line_2 (fun w9 H locs hro hF hz9 hk9 hun => ?_)
  have hL := hL.keep hun rfl
  obtain ⟨w8, rfl, hw8, -⟩ := RO_some rfl hro
  rcases avi_nr (t := 3) hw8 with ⟨v0, rfl, tv, -⟩ | rfl
  · refine lv_astore (lv' := [(4, .ref v0), (0, .ref x0), (1, .int p0), (2, .int p1), (3, .int p2)]) (pc := 5) hx hb dX11_line_5 hl (by decide) rfl (fun ls hl => ?_)
    refine lv_aload (pc := 7) hx hb dX11_line_7 (lv_at hl 0 rfl) ?_
    refine lv_ifnull (pc := 9) hx hb dX11_line_9 ?_
    refine lv_aload (pc := 12) hx hb dX11_line_12 (lv_at hl 0 rfl) ?_
    refine lv_iload_n (pc := 14) hx hb dX11_line_14 rfl (lv_at hl 3 rfl) ?_
    refine f_callV (pc := 15) (ci := 10) (As := [.int p1]) (rs := []) X hF (SX10_hasLine_0 l g) vX11_124 rfl (by rw [tv]; decide) ((congrArg TS0.1 tv).trans rfl) ⟨av_ref tv (by decide), avi_top p1, trivial⟩ rfl rfl hl.1 rfl (Nat.le_of_ble_eq_true rfl) ⟨Nat.le_of_ble_eq_true rfl, Nat.le_of_ble_eq_true rfl⟩ ⟨Nat.le_of_ble_eq_true rfl, Nat.le_of_ble_eq_true rfl⟩ dX11_line_15 (fun w9 H locs hro hF hz9 hk9 hun => ?_)
    have hL := hL.keep hun rfl
    obtain ⟨w8, rfl, hw8, him⟩ := RO_some rfl hro
    obtain ⟨b0, rfl, hb0, hb1⟩ := avi_int rfl hw8
    refine lv_if_eq (tgt := 31) (pc := 18) hx hb dX11_line_18 rfl (fun c1 => ?_) (fun c1 => ?_)
    · refine vx_throw0 (pc := 31) (own := RX11) (cls := XNN) (names := XUP) (ik := 127) (ic := 129) (A := (AA Γ s.heap.size)) hx hb hfl X.2.2.2.1 (by decide +kernel) (by decide +kernel) (X.2.2.2.2.1 _ m_1161) (X.2.2.2.2.1 _ m_17)
        (vx_hat (fun w hw => X.2.2.2.2.1 w (xat_bw w hw)) xat_ng (vx_c (va_Nw.use rfl hTh.2.2.1) (vx_c (va_Nw.use rfl hTh.2.2.2.1) (vx_c (va_Nw.use rfl hTh.2.2.2.2.1) (vx_c (va_Nw.use rfl hTh.2.2.2.2.2) vx_n))))) (fun w hw => List.all_eq_true.mp xat_ot w hw) hTh.1 hTh.2.1 hF.2.2.2 (hl.1.trans hml.symm) dX11_line_31 dX11_line_34 dX11_line_35 dX11_line_38 (fun x hx9 => (htab x hx9).elim)
        (by decide) (by decide) (Nat.le_of_ble_eq_true rfl) (Nat.le_of_ble_eq_true rfl) X.2.2.2.2.2.2.2.2 (fun t _ hz hq => ⟨(), trivial, ⟨rfl, HT_ext hF.1 fun q hq9 => hq q (hF.1.lt hq9), hL.same fun q hq9 => hq q (hF.1.lt hq9)⟩, Nat.le_trans hF.2.2.2.1 hz, fun q h1 h2 => (hq q (Nat.lt_of_lt_of_le h1 hF.2.2.2.1)).trans (hF.2.2.2.2.1 q h1 h2)⟩) hF.2.2.2.2.2 (Nat.le_of_ble_eq_true rfl) (Nat.le_of_ble_eq_true rfl)
    · have hp1 : avi g Γ (vi 0 11) (.int p1) := hl_im him rfl hb0 hb1 c1
      refine lv_iload_n (pc := 21) hx hb dX11_line_21 rfl (lv_at hl 4 rfl) ?_
      refine lv_if_lt (tgt := 31) (pc := 22) hx hb dX11_line_22 rfl (fun c2 => ?_) (fun c2 => ?_)
      · refine vx_throw0 (pc := 31) (own := RX11) (cls := XNN) (names := XUP) (ik := 127) (ic := 129) (A := (AA Γ s.heap.size)) hx hb hfl X.2.2.2.1 (by decide +kernel) (by decide +kernel) (X.2.2.2.2.1 _ m_1161) (X.2.2.2.2.1 _ m_17)
          (vx_hat (fun w hw => X.2.2.2.2.1 w (xat_bw w hw)) xat_ng (vx_c (va_Nw.use rfl hTh.2.2.1) (vx_c (va_Nw.use rfl hTh.2.2.2.1) (vx_c (va_Nw.use rfl hTh.2.2.2.2.1) (vx_c (va_Nw.use rfl hTh.2.2.2.2.2) vx_n))))) (fun w hw => List.all_eq_true.mp xat_ot w hw) hTh.1 hTh.2.1 hF.2.2.2 (hl.1.trans hml.symm) dX11_line_31 dX11_line_34 dX11_line_35 dX11_line_38 (fun x hx9 => (htab x hx9).elim)
          (by decide) (by decide) (Nat.le_of_ble_eq_true rfl) (Nat.le_of_ble_eq_true rfl) X.2.2.2.2.2.2.2.2 (fun t _ hz hq => ⟨(), trivial, ⟨rfl, HT_ext hF.1 fun q hq9 => hq q (hF.1.lt hq9), hL.same fun q hq9 => hq q (hF.1.lt hq9)⟩, Nat.le_trans hF.2.2.2.1 hz, fun q h1 h2 => (hq q (Nat.lt_of_lt_of_le h1 hF.2.2.2.1)).trans (hF.2.2.2.2.1 q h1 h2)⟩) hF.2.2.2.2.2 (Nat.le_of_ble_eq_true rfl) (Nat.le_of_ble_eq_true rfl)
      · refine lv_iload_n (pc := 25) hx hb dX11_line_25 rfl (lv_at hl 4 rfl) ?_
        refine lv_bipush (v := 6) (pc := 26) hx hb dX11_line_26 (by decide) ?_
        refine lv_icmp_lt (tgt := 39) (pc := 28) hx hb dX11_line_28 rfl (fun c3 => ?_) (fun c3 => ?_)
        · refine lv_aload (pc := 39) hx hb dX11_line_39 (lv_at hl 0 rfl) ?_
          refine lv_iload_n (pc := 41) hx hb dX11_line_41 rfl (lv_at hl 3 rfl) ?_
          refine lv_iload_n (pc := 42) hx hb dX11_line_42 rfl (lv_at hl 4 rfl) ?_
          have hp2 := i32_06 c2 c3
          rcases hp2 with rfl | rfl | rfl | rfl | rfl | rfl
          · refine f_callV (pc := 43) (ci := 10) (As := [.int p1, .int 0]) (rs := []) X hF (SX10_lineFact_h0 l g) vX11_130 rfl (by rw [tv]; decide) ((congrArg TS0.1 tv).trans rfl) ⟨av_ref tv (by decide), hp1, ⟨rfl, by decide, by decide⟩, trivial⟩ rfl rfl hl.1 rfl (Nat.le_of_ble_eq_true rfl) ⟨Nat.le_of_ble_eq_true rfl, Nat.le_of_ble_eq_true rfl⟩ ⟨Nat.le_of_ble_eq_true rfl, Nat.le_of_ble_eq_true rfl⟩ dX11_line_43 (fun w9 H locs hro hF hz9 hk9 hun => ?_)
            have hL := hL.keep hun rfl
            obtain ⟨w8, rfl, hw8, -⟩ := RO_some rfl hro
            obtain ⟨r0, rfl, -⟩ := avi_int rfl hw8
            refine vx_ret (W.widen (k := 1) (n := 6) (Nat.zero_le _) (Nat.zero_le _) ?_)
            exact W.iret hx hb B.returns (fun t ht _ => ⟨⟨r0, (), rfl, trivial, by rw [ht]; exact hF.1, by rw [ht]; exact hL⟩, hF.2.2.2.F ht⟩) hF.2.2.2.2.2 dX11_line_46 X.2.2.2.2.2.2.2.2
          · refine f_callV (pc := 43) (ci := 10) (As := [.int p1, .int 1]) (rs := []) X hF (SX10_lineFact_h1 l g) vX11_130 rfl (by rw [tv]; decide) ((congrArg TS0.1 tv).trans rfl) ⟨av_ref tv (by decide), hp1, ⟨rfl, by decide, by decide⟩, trivial⟩ rfl rfl hl.1 rfl (Nat.le_of_ble_eq_true rfl) ⟨Nat.le_of_ble_eq_true rfl, Nat.le_of_ble_eq_true rfl⟩ ⟨Nat.le_of_ble_eq_true rfl, Nat.le_of_ble_eq_true rfl⟩ dX11_line_43 (fun w9 H locs hro hF hz9 hk9 hun => ?_)
            have hL := hL.keep hun rfl
            obtain ⟨w8, rfl, hw8, -⟩ := RO_some rfl hro
            obtain ⟨r0, rfl, -⟩ := avi_int rfl hw8
            refine vx_ret (W.widen (k := 1) (n := 6) (Nat.zero_le _) (Nat.zero_le _) ?_)
            exact W.iret hx hb B.returns (fun t ht _ => ⟨⟨r0, (), rfl, trivial, by rw [ht]; exact hF.1, by rw [ht]; exact hL⟩, hF.2.2.2.F ht⟩) hF.2.2.2.2.2 dX11_line_46 X.2.2.2.2.2.2.2.2
          · refine f_callV (pc := 43) (ci := 10) (As := [.int p1, .int 2]) (rs := []) X hF (SX10_lineFact_h2 l g) vX11_130 rfl (by rw [tv]; decide) ((congrArg TS0.1 tv).trans rfl) ⟨av_ref tv (by decide), hp1, ⟨rfl, by decide, by decide⟩, trivial⟩ rfl rfl hl.1 rfl (Nat.le_of_ble_eq_true rfl) ⟨Nat.le_of_ble_eq_true rfl, Nat.le_of_ble_eq_true rfl⟩ ⟨Nat.le_of_ble_eq_true rfl, Nat.le_of_ble_eq_true rfl⟩ dX11_line_43 (fun w9 H locs hro hF hz9 hk9 hun => ?_)
            have hL := hL.keep hun rfl
            obtain ⟨w8, rfl, hw8, -⟩ := RO_some rfl hro
            obtain ⟨r0, rfl, -⟩ := avi_int rfl hw8
            refine vx_ret (W.widen (k := 1) (n := 6) (Nat.zero_le _) (Nat.zero_le _) ?_)
            exact W.iret hx hb B.returns (fun t ht _ => ⟨⟨r0, (), rfl, trivial, by rw [ht]; exact hF.1, by rw [ht]; exact hL⟩, hF.2.2.2.F ht⟩) hF.2.2.2.2.2 dX11_line_46 X.2.2.2.2.2.2.2.2
          · refine f_callV (pc := 43) (ci := 10) (As := [.int p1, .int 3]) (rs := []) X hF (SX10_lineFact_h3 l g) vX11_130 rfl (by rw [tv]; decide) ((congrArg TS0.1 tv).trans rfl) ⟨av_ref tv (by decide), hp1, ⟨rfl, by decide, by decide⟩, trivial⟩ rfl rfl hl.1 rfl (Nat.le_of_ble_eq_true rfl) ⟨Nat.le_of_ble_eq_true rfl, Nat.le_of_ble_eq_true rfl⟩ ⟨Nat.le_of_ble_eq_true rfl, Nat.le_of_ble_eq_true rfl⟩ dX11_line_43 (fun w9 H locs hro hF hz9 hk9 hun => ?_)
            have hL := hL.keep hun rfl
            obtain ⟨w8, rfl, hw8, -⟩ := RO_some rfl hro
            obtain ⟨r0, rfl, -⟩ := avi_int rfl hw8
            refine vx_ret (W.widen (k := 1) (n := 6) (Nat.zero_le _) (Nat.zero_le _) ?_)
            exact W.iret hx hb B.returns (fun t ht _ => ⟨⟨r0, (), rfl, trivial, by rw [ht]; exact hF.1, by rw [ht]; exact hL⟩, hF.2.2.2.F ht⟩) hF.2.2.2.2.2 dX11_line_46 X.2.2.2.2.2.2.2.2
          · refine f_callV (pc := 43) (ci := 10) (As := [.int p1, .int 4]) (rs := []) X hF (SX10_lineFact_h4 l g) vX11_130 rfl (by rw [tv]; decide) ((congrArg TS0.1 tv).trans rfl) ⟨av_ref tv (by decide), hp1, ⟨rfl, by decide, by decide⟩, trivial⟩ rfl rfl hl.1 rfl (Nat.le_of_ble_eq_true rfl) ⟨Nat.le_of_ble_eq_true rfl, Nat.le_of_ble_eq_true rfl⟩ ⟨Nat.le_of_ble_eq_true rfl, Nat.le_of_ble_eq_true rfl⟩ dX11_line_43 (fun w9 H locs hro hF hz9 hk9 hun => ?_)
            have hL := hL.keep hun rfl
            obtain ⟨w8, rfl, hw8, -⟩ := RO_some rfl hro
            obtain ⟨r0, rfl, -⟩ := avi_int rfl hw8
            refine vx_ret (W.widen (k := 1) (n := 6) (Nat.zero_le _) (Nat.zero_le _) ?_)
            exact W.iret hx hb B.returns (fun t ht _ => ⟨⟨r0, (), rfl, trivial, by rw [ht]; exact hF.1, by rw [ht]; exact hL⟩, hF.2.2.2.F ht⟩) hF.2.2.2.2.2 dX11_line_46 X.2.2.2.2.2.2.2.2
          · refine f_callV (pc := 43) (ci := 10) (As := [.int p1, .int 5]) (rs := []) X hF (SX10_lineFact_h5 l g) vX11_130 rfl (by rw [tv]; decide) ((congrArg TS0.1 tv).trans rfl) ⟨av_ref tv (by decide), hp1, ⟨rfl, by decide, by decide⟩, trivial⟩ rfl rfl hl.1 rfl (Nat.le_of_ble_eq_true rfl) ⟨Nat.le_of_ble_eq_true rfl, Nat.le_of_ble_eq_true rfl⟩ ⟨Nat.le_of_ble_eq_true rfl, Nat.le_of_ble_eq_true rfl⟩ dX11_line_43 (fun w9 H locs hro hF hz9 hk9 hun => ?_)
            have hL := hL.keep hun rfl
            obtain ⟨w8, rfl, hw8, -⟩ := RO_some rfl hro
            obtain ⟨r0, rfl, -⟩ := avi_int rfl hw8
            refine vx_ret (W.widen (k := 1) (n := 6) (Nat.zero_le _) (Nat.zero_le _) ?_)
            exact W.iret hx hb B.returns (fun t ht _ => ⟨⟨r0, (), rfl, trivial, by rw [ht]; exact hF.1, by rw [ht]; exact hL⟩, hF.2.2.2.F ht⟩) hF.2.2.2.2.2 dX11_line_46 X.2.2.2.2.2.2.2.2
        · refine vx_throw0 (pc := 31) (own := RX11) (cls := XNN) (names := XUP) (ik := 127) (ic := 129) (A := (AA Γ s.heap.size)) hx hb hfl X.2.2.2.1 (by decide +kernel) (by decide +kernel) (X.2.2.2.2.1 _ m_1161) (X.2.2.2.2.1 _ m_17)
            (vx_hat (fun w hw => X.2.2.2.2.1 w (xat_bw w hw)) xat_ng (vx_c (va_Nw.use rfl hTh.2.2.1) (vx_c (va_Nw.use rfl hTh.2.2.2.1) (vx_c (va_Nw.use rfl hTh.2.2.2.2.1) (vx_c (va_Nw.use rfl hTh.2.2.2.2.2) vx_n))))) (fun w hw => List.all_eq_true.mp xat_ot w hw) hTh.1 hTh.2.1 hF.2.2.2 (hl.1.trans hml.symm) dX11_line_31 dX11_line_34 dX11_line_35 dX11_line_38 (fun x hx9 => (htab x hx9).elim)
            (by decide) (by decide) (Nat.le_of_ble_eq_true rfl) (Nat.le_of_ble_eq_true rfl) X.2.2.2.2.2.2.2.2 (fun t _ hz hq => ⟨(), trivial, ⟨rfl, HT_ext hF.1 fun q hq9 => hq q (hF.1.lt hq9), hL.same fun q hq9 => hq q (hF.1.lt hq9)⟩, Nat.le_trans hF.2.2.2.1 hz, fun q h1 h2 => (hq q (Nat.lt_of_lt_of_le h1 hF.2.2.2.1)).trans (hF.2.2.2.2.1 q h1 h2)⟩) hF.2.2.2.2.2 (Nat.le_of_ble_eq_true rfl) (Nat.le_of_ble_eq_true rfl)
  · refine lv_astoreN (lv' := [(4, .null), (0, .ref x0), (1, .int p0), (2, .int p1), (3, .int p2)]) (pc := 5) hx hb dX11_line_5 hl (by decide) rfl (fun ls hl => ?_)
    refine lv_aloadN (pc := 7) hx hb dX11_line_7 (lv_at hl 0 rfl) ?_
    refine lv_ifnullN (tgt := 31) (pc := 9) hx hb dX11_line_9 rfl ?_
    refine vx_throw0 (pc := 31) (own := RX11) (cls := XNN) (names := XUP) (ik := 127) (ic := 129) (A := (AA Γ s.heap.size)) hx hb hfl X.2.2.2.1 (by decide +kernel) (by decide +kernel) (X.2.2.2.2.1 _ m_1161) (X.2.2.2.2.1 _ m_17)
      (vx_hat (fun w hw => X.2.2.2.2.1 w (xat_bw w hw)) xat_ng (vx_c (va_Nw.use rfl hTh.2.2.1) (vx_c (va_Nw.use rfl hTh.2.2.2.1) (vx_c (va_Nw.use rfl hTh.2.2.2.2.1) (vx_c (va_Nw.use rfl hTh.2.2.2.2.2) vx_n))))) (fun w hw => List.all_eq_true.mp xat_ot w hw) hTh.1 hTh.2.1 hF.2.2.2 (hl.1.trans hml.symm) dX11_line_31 dX11_line_34 dX11_line_35 dX11_line_38 (fun x hx9 => (htab x hx9).elim)
      (by decide) (by decide) (Nat.le_of_ble_eq_true rfl) (Nat.le_of_ble_eq_true rfl) X.2.2.2.2.2.2.2.2 (fun t _ hz hq => ⟨(), trivial, ⟨rfl, HT_ext hF.1 fun q hq9 => hq q (hF.1.lt hq9), hL.same fun q hq9 => hq q (hF.1.lt hq9)⟩, Nat.le_trans hF.2.2.2.1 hz, fun q h1 h2 => (hq q (Nat.lt_of_lt_of_le h1 hF.2.2.2.1)).trans (hF.2.2.2.2.1 q h1 h2)⟩) hF.2.2.2.2.2 (Nat.le_of_ble_eq_true rfl) (Nat.le_of_ble_eq_true rfl)

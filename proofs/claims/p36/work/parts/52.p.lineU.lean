/-! line, and the law's line: no tagged cell changes -/
def LFU (g : GG) (x0 m0 : Nat) (Γ : Nat → Nat) (Hs H : Heap) : Prop := Γ x0 = 1 ∧ LF g x0 m0 Γ H ∧ Un g TS0 Γ [] Hs H
theorem LFU.keep {g : GG} {x0 m0 : Nat} {Γ : Nat → Nat} {Hs H H1 : Heap} (h : LFU g x0 m0 Γ Hs H) (hu : Un g TS0 Γ [] H H1) (_ : True) : LFU g x0 m0 Γ Hs H1 := ⟨h.1, h.2.1.keep hu rfl, fun q hq => (h.2.2 q hq).trans (hu q hq)⟩
theorem LFU.same {g : GG} {x0 m0 : Nat} {Γ : Nat → Nat} {Hs H H1 : Heap} (h : LFU g x0 m0 Γ Hs H) (he : ∀ q : Nat, Γ q ≠ 0 → H1[q]? = H[q]?) : LFU g x0 m0 Γ Hs H1 := ⟨h.1, h.2.1.same he, fun q hq => (h.2.2 q hq).trans (Un1.same (he q hq))⟩
def LPREU (g : GG) (x0 m0 : Nat) (Γ : Nat → Nat) (Hs : Heap) (sz : Nat) (As : List Value) : State → Prop := fun U => U.heap.size = sz ∧ SPRE g TS0 Γ As [] U ∧ LFU g x0 m0 Γ Hs U.heap ∧ THR (AA Γ sz) U U.heap
theorem LPREU.blind {g : GG} {x0 m0 sz : Nat} {Γ : Nat → Nat} {Hs : Heap} {As Bs : List Value} : FrameBlind (va_Pc As (LPREU g x0 m0 Γ Hs sz Bs)) := by
  intro a U f mk q
  obtain ⟨q0, q1, q2, q3, q4, q5, q6⟩ := q
  have h := SPRE.blind (g := g) (ts := TS0) (Γ := Γ) (As := As) (Bs := Bs) (pf := []) a U f mk ⟨q0, q2⟩
  exact ⟨q0, q1, h.2, q3, vx_Zq.moved (u := U) (U := U.calling f mk a) (Vm.Alike.refl U.vm) q4, vx_Zq.moved (u := U) (U := U.calling f mk a) (Vm.Alike.refl U.vm) q5, va_Nw.same rfl rfl q6.1, va_Nw.same rfl rfl q6.2.1, va_Nw.same rfl rfl q6.2.2.1, va_Nw.same rfl rfl q6.2.2.2⟩
abbrev LBU (g : GG) (x0 m0 : Nat) (Γ : Nat → Nat) (Hs : Heap) : State → Prop := fun t => HT g TS0 Γ t.heap ∧ LFU g x0 m0 Γ Hs t.heap
set_option maxHeartbeats 4000000 in
set_option maxRecDepth 100000 in
theorem GX11_lineU (l : Launch) (hfl : l.stackTraces = false) (g : GG) (x0 m0 : Nat) (p0 p1 p2 : Int32) (Γ : Nat → Nat) (Hs : Heap) (sz : Nat) (hU : UQ TS0 Γ) : vx_Met l yX11_line (WW yX11_line cX11_line 5 (some .int)) (RM 7 1 6) (va_Pc [.ref x0, .int p0, .int p1, .int p2] (LPREU g x0 m0 Γ Hs sz [.ref x0, .int p0, .int p1, .int p2])) (va_Qi (fun (_ : Int32) (_ : Unit) => True) (fun _ t => LBU g x0 m0 Γ Hs t) (AA Γ sz)) (vx_X (fun _ : Unit => True) (fun E _ t => E = XNN ∧ LBU g x0 m0 Γ Hs t) (AA Γ sz)) 1 6 (AA Γ sz) := by
  refine vx_ofW (cc := cX11_line) (maxL := 5) (ret := (some .int)) (by decide) rfl ?_
  intro p e s m args below meth c s₁ B hml htab hv
  obtain ⟨rfl, hsz, ⟨hT, hK, hTB, -⟩, hL, hTh⟩ := hv
  subst hsz
  have hts := atoms_spec (ws := WW yX11_line cX11_line 5 (some .int)) B.pre
  have hl := lv_entry ([.ref x0, .int p0, .int p1, .int p2]) (n := 5) (Nat.le_of_ble_eq_true rfl)
  rw [lg_entry_eq]
  generalize (lg_sl ([.ref x0, .int p0, .int p1, .int p2]) ++ List.replicate (5 - (lg_sl ([.ref x0, .int p0, .int p1, .int p2])).length) Slot.unset).toArray = ls at hl ⊢
  have hl : lv_has ls 5 [(0, .ref x0), (1, .int p0), (2, .int p1), (3, .int p2)] := hl
  have X : CTX p l m meth c cX11_line 5 s _ RX11 g (AA Γ s.heap.size) := ⟨B.exec, B.bytes, hml, findClass_of_methodNamed B.named, fun w h => hts w (List.mem_cons_of_mem _ h), hK, hTB, fun q h => Or.inr h, B.notSynchronized⟩
  have hF : FR g (AA Γ s.heap.size) s Γ s.heap [] := ⟨hT, hU, fun q h => Or.inl h, va_S.rf⟩
  have hx := X.1
  have hb := X.2.1
  refine lv_aload_n (pc := 0) hx hb dX11_line_0 rfl (lv_at hl 0 rfl) ?_
  refine lv_iload_n (pc := 1) hx hb dX11_line_1 rfl (lv_at hl 1 rfl) ?_
  refine f_callV (pc := 2) (ci := 11) (As := [.int p0]) (rs := []) X hF (SX11_valleyAt_0 l g) vX11_101 rfl (by rw [hL.1]; decide) ((congrArg TS0.1 hL.1).trans rfl) ⟨av_ref hL.1 (by decide), avi_top p0, trivial⟩ rfl rfl hl.1 rfl (Nat.le_of_ble_eq_true rfl) ⟨Nat.le_of_ble_eq_true rfl, Nat.le_of_ble_eq_true rfl⟩ ⟨Nat.le_of_ble_eq_true rfl, Nat.le_of_ble_eq_true rfl⟩ dX11_line_2 (fun w9 H locs hro hF hz9 hk9 hun => ?_)
  have hL := hL.keep hun trivial
  obtain ⟨w8, rfl, hw8, -⟩ := RO_some rfl hro
  rcases avi_nr (t := 3) hw8 with ⟨v0, rfl, tv, -⟩ | rfl
  · refine lv_astore (lv' := [(4, .ref v0), (0, .ref x0), (1, .int p0), (2, .int p1), (3, .int p2)]) (pc := 5) hx hb dX11_line_5 hl (by decide) rfl (fun ls hl => ?_)
    refine lv_aload (pc := 7) hx hb dX11_line_7 (lv_at hl 0 rfl) ?_
    refine lv_ifnull (pc := 9) hx hb dX11_line_9 ?_
    refine lv_aload (pc := 12) hx hb dX11_line_12 (lv_at hl 0 rfl) ?_
    refine lv_iload_n (pc := 14) hx hb dX11_line_14 rfl (lv_at hl 3 rfl) ?_
    refine f_callV (pc := 15) (ci := 10) (As := [.int p1]) (rs := []) X hF (SX10_hasLine_0 l g) vX11_124 rfl (by rw [tv]; decide) ((congrArg TS0.1 tv).trans rfl) ⟨av_ref tv (by decide), avi_top p1, trivial⟩ rfl rfl hl.1 rfl (Nat.le_of_ble_eq_true rfl) ⟨Nat.le_of_ble_eq_true rfl, Nat.le_of_ble_eq_true rfl⟩ ⟨Nat.le_of_ble_eq_true rfl, Nat.le_of_ble_eq_true rfl⟩ dX11_line_15 (fun w9 H locs hro hF hz9 hk9 hun => ?_)
    have hL := hL.keep hun trivial
    obtain ⟨w8, rfl, hw8, him⟩ := RO_some rfl hro
    obtain ⟨b0, rfl, hb0, hb1⟩ := avi_int rfl hw8
    refine lv_if_eq (tgt := 31) (pc := 18) hx hb dX11_line_18 rfl (fun c1 => ?_) (fun c1 => ?_)
    · refine vx_throw0 (pc := 31) (own := RX11) (cls := XNN) (names := XUP) (ik := 127) (ic := 129) (A := (AA Γ s.heap.size)) hx hb hfl X.2.2.2.1 (by decide +kernel) (by decide +kernel) (X.2.2.2.2.1 _ m_1161) (X.2.2.2.2.1 _ m_17)
        (vx_hat (fun w hw => X.2.2.2.2.1 w (xat_bw w hw)) xat_ng (vx_c (va_Nw.use rfl hTh.2.2.1) (vx_c (va_Nw.use rfl hTh.2.2.2.1) (vx_c (va_Nw.use rfl hTh.2.2.2.2.1) (vx_c (va_Nw.use rfl hTh.2.2.2.2.2) vx_n))))) (fun w hw => List.all_eq_true.mp xat_ot w hw) hTh.1 hTh.2.1 hF.2.2.2 (hl.1.trans hml.symm) dX11_line_31 dX11_line_34 dX11_line_35 dX11_line_38 (fun x hx9 => (htab x hx9).elim)
        (by decide) (by decide) (Nat.le_of_ble_eq_true rfl) (Nat.le_of_ble_eq_true rfl) X.2.2.2.2.2.2.2.2 (fun t _ hz hq => ⟨(), trivial, ⟨rfl, HT_ext hF.1 fun q hq9 => hq q (hF.1.lt hq9), hL.same fun q hq9 => hq q (hF.1.lt hq9)⟩, Nat.le_trans hF.2.2.2.1 hz, fun q h1 h2 => (hq q (Nat.lt_of_lt_of_le h1 hF.2.2.2.1)).trans (hF.2.2.2.2.1 q h1 h2)⟩) hF.2.2.2.2.2 (Nat.le_of_ble_eq_true rfl) (Nat.le_of_ble_eq_true rfl)
    · have hp1 : avi g Γ (vi 0 11) (.int p1) := hl_im him rfl hb0 hb1 c1
      refine lv_iload_n (pc := 21) hx hb dX11_line_21 rfl (lv_at hl 4 rfl) ?_
      refine lv_if_lt (tgt := 31) (pc := 22) hx hb dX11_line_22 rfl (fun c2 => ?_) (fun c2 => ?_)
      · refine vx_throw0 (pc := 31) (own := RX11) (cls := XNN) (names := XUP) (ik := 127) (ic := 129) (A := (AA Γ s.heap.size)) hx hb hfl X.2.2.2.1 (by decide +kernel) (by decide +kernel) (X.2.2.2.2.1 _ m_1161) (X.2.2.2.2.1 _ m_17)
          (vx_hat (fun w hw => X.2.2.2.2.1 w (xat_bw w hw)) xat_ng (vx_c (va_Nw.use rfl hTh.2.2.1) (vx_c (va_Nw.use rfl hTh.2.2.2.1) (vx_c (va_Nw.use rfl hTh.2.2.2.2.1) (vx_c (va_Nw.use rfl hTh.2.2.2.2.2) vx_n))))) (fun w hw => List.all_eq_true.mp xat_ot w hw) hTh.1 hTh.2.1 hF.2.2.2 (hl.1.trans hml.symm) dX11_line_31 dX11_line_34 dX11_line_35 dX11_line_38 (fun x hx9 => (htab x hx9).elim)
          (by decide) (by decide) (Nat.le_of_ble_eq_true rfl) (Nat.le_of_ble_eq_true rfl) X.2.2.2.2.2.2.2.2 (fun t _ hz hq => ⟨(), trivial, ⟨rfl, HT_ext hF.1 fun q hq9 => hq q (hF.1.lt hq9), hL.same fun q hq9 => hq q (hF.1.lt hq9)⟩, Nat.le_trans hF.2.2.2.1 hz, fun q h1 h2 => (hq q (Nat.lt_of_lt_of_le h1 hF.2.2.2.1)).trans (hF.2.2.2.2.1 q h1 h2)⟩) hF.2.2.2.2.2 (Nat.le_of_ble_eq_true rfl) (Nat.le_of_ble_eq_true rfl)
      · refine lv_iload_n (pc := 25) hx hb dX11_line_25 rfl (lv_at hl 4 rfl) ?_
        refine lv_bipush (v := 6) (pc := 26) hx hb dX11_line_26 (by decide) ?_
        refine lv_icmp_lt (tgt := 39) (pc := 28) hx hb dX11_line_28 rfl (fun c3 => ?_) (fun c3 => ?_)
        · refine lv_aload (pc := 39) hx hb dX11_line_39 (lv_at hl 0 rfl) ?_
          refine lv_iload_n (pc := 41) hx hb dX11_line_41 rfl (lv_at hl 3 rfl) ?_
          refine lv_iload_n (pc := 42) hx hb dX11_line_42 rfl (lv_at hl 4 rfl) ?_
          have hp2 := i32_06 c2 c3
          rcases hp2 with rfl | rfl | rfl | rfl | rfl | rfl
          · refine f_callV (pc := 43) (ci := 10) (As := [.int p1, .int 0]) (rs := []) X hF (SX10_lineFact_h0 l g) vX11_130 rfl (by rw [tv]; decide) ((congrArg TS0.1 tv).trans rfl) ⟨av_ref tv (by decide), hp1, ⟨rfl, by decide, by decide⟩, trivial⟩ rfl rfl hl.1 rfl (Nat.le_of_ble_eq_true rfl) ⟨Nat.le_of_ble_eq_true rfl, Nat.le_of_ble_eq_true rfl⟩ ⟨Nat.le_of_ble_eq_true rfl, Nat.le_of_ble_eq_true rfl⟩ dX11_line_43 (fun w9 H locs hro hF hz9 hk9 hun => ?_)
            have hL := hL.keep hun trivial
            obtain ⟨w8, rfl, hw8, -⟩ := RO_some rfl hro
            obtain ⟨r0, rfl, -⟩ := avi_int rfl hw8
            refine vx_ret (W.widen (k := 1) (n := 6) (Nat.zero_le _) (Nat.zero_le _) ?_)
            exact W.iret hx hb B.returns (fun t ht _ => ⟨⟨r0, (), rfl, trivial, by rw [ht]; exact hF.1, by rw [ht]; exact hL⟩, hF.2.2.2.F ht⟩) hF.2.2.2.2.2 dX11_line_46 X.2.2.2.2.2.2.2.2
          · refine f_callV (pc := 43) (ci := 10) (As := [.int p1, .int 1]) (rs := []) X hF (SX10_lineFact_h1 l g) vX11_130 rfl (by rw [tv]; decide) ((congrArg TS0.1 tv).trans rfl) ⟨av_ref tv (by decide), hp1, ⟨rfl, by decide, by decide⟩, trivial⟩ rfl rfl hl.1 rfl (Nat.le_of_ble_eq_true rfl) ⟨Nat.le_of_ble_eq_true rfl, Nat.le_of_ble_eq_true rfl⟩ ⟨Nat.le_of_ble_eq_true rfl, Nat.le_of_ble_eq_true rfl⟩ dX11_line_43 (fun w9 H locs hro hF hz9 hk9 hun => ?_)
            have hL := hL.keep hun trivial
            obtain ⟨w8, rfl, hw8, -⟩ := RO_some rfl hro
            obtain ⟨r0, rfl, -⟩ := avi_int rfl hw8
            refine vx_ret (W.widen (k := 1) (n := 6) (Nat.zero_le _) (Nat.zero_le _) ?_)
            exact W.iret hx hb B.returns (fun t ht _ => ⟨⟨r0, (), rfl, trivial, by rw [ht]; exact hF.1, by rw [ht]; exact hL⟩, hF.2.2.2.F ht⟩) hF.2.2.2.2.2 dX11_line_46 X.2.2.2.2.2.2.2.2
          · refine f_callV (pc := 43) (ci := 10) (As := [.int p1, .int 2]) (rs := []) X hF (SX10_lineFact_h2 l g) vX11_130 rfl (by rw [tv]; decide) ((congrArg TS0.1 tv).trans rfl) ⟨av_ref tv (by decide), hp1, ⟨rfl, by decide, by decide⟩, trivial⟩ rfl rfl hl.1 rfl (Nat.le_of_ble_eq_true rfl) ⟨Nat.le_of_ble_eq_true rfl, Nat.le_of_ble_eq_true rfl⟩ ⟨Nat.le_of_ble_eq_true rfl, Nat.le_of_ble_eq_true rfl⟩ dX11_line_43 (fun w9 H locs hro hF hz9 hk9 hun => ?_)
            have hL := hL.keep hun trivial
            obtain ⟨w8, rfl, hw8, -⟩ := RO_some rfl hro
            obtain ⟨r0, rfl, -⟩ := avi_int rfl hw8
            refine vx_ret (W.widen (k := 1) (n := 6) (Nat.zero_le _) (Nat.zero_le _) ?_)
            exact W.iret hx hb B.returns (fun t ht _ => ⟨⟨r0, (), rfl, trivial, by rw [ht]; exact hF.1, by rw [ht]; exact hL⟩, hF.2.2.2.F ht⟩) hF.2.2.2.2.2 dX11_line_46 X.2.2.2.2.2.2.2.2
          · refine f_callV (pc := 43) (ci := 10) (As := [.int p1, .int 3]) (rs := []) X hF (SX10_lineFact_h3 l g) vX11_130 rfl (by rw [tv]; decide) ((congrArg TS0.1 tv).trans rfl) ⟨av_ref tv (by decide), hp1, ⟨rfl, by decide, by decide⟩, trivial⟩ rfl rfl hl.1 rfl (Nat.le_of_ble_eq_true rfl) ⟨Nat.le_of_ble_eq_true rfl, Nat.le_of_ble_eq_true rfl⟩ ⟨Nat.le_of_ble_eq_true rfl, Nat.le_of_ble_eq_true rfl⟩ dX11_line_43 (fun w9 H locs hro hF hz9 hk9 hun => ?_)
            have hL := hL.keep hun trivial
            obtain ⟨w8, rfl, hw8, -⟩ := RO_some rfl hro
            obtain ⟨r0, rfl, -⟩ := avi_int rfl hw8
            refine vx_ret (W.widen (k := 1) (n := 6) (Nat.zero_le _) (Nat.zero_le _) ?_)
            exact W.iret hx hb B.returns (fun t ht _ => ⟨⟨r0, (), rfl, trivial, by rw [ht]; exact hF.1, by rw [ht]; exact hL⟩, hF.2.2.2.F ht⟩) hF.2.2.2.2.2 dX11_line_46 X.2.2.2.2.2.2.2.2
          · refine f_callV (pc := 43) (ci := 10) (As := [.int p1, .int 4]) (rs := []) X hF (SX10_lineFact_h4 l g) vX11_130 rfl (by rw [tv]; decide) ((congrArg TS0.1 tv).trans rfl) ⟨av_ref tv (by decide), hp1, ⟨rfl, by decide, by decide⟩, trivial⟩ rfl rfl hl.1 rfl (Nat.le_of_ble_eq_true rfl) ⟨Nat.le_of_ble_eq_true rfl, Nat.le_of_ble_eq_true rfl⟩ ⟨Nat.le_of_ble_eq_true rfl, Nat.le_of_ble_eq_true rfl⟩ dX11_line_43 (fun w9 H locs hro hF hz9 hk9 hun => ?_)
            have hL := hL.keep hun trivial
            obtain ⟨w8, rfl, hw8, -⟩ := RO_some rfl hro
            obtain ⟨r0, rfl, -⟩ := avi_int rfl hw8
            refine vx_ret (W.widen (k := 1) (n := 6) (Nat.zero_le _) (Nat.zero_le _) ?_)
            exact W.iret hx hb B.returns (fun t ht _ => ⟨⟨r0, (), rfl, trivial, by rw [ht]; exact hF.1, by rw [ht]; exact hL⟩, hF.2.2.2.F ht⟩) hF.2.2.2.2.2 dX11_line_46 X.2.2.2.2.2.2.2.2
          · refine f_callV (pc := 43) (ci := 10) (As := [.int p1, .int 5]) (rs := []) X hF (SX10_lineFact_h5 l g) vX11_130 rfl (by rw [tv]; decide) ((congrArg TS0.1 tv).trans rfl) ⟨av_ref tv (by decide), hp1, ⟨rfl, by decide, by decide⟩, trivial⟩ rfl rfl hl.1 rfl (Nat.le_of_ble_eq_true rfl) ⟨Nat.le_of_ble_eq_true rfl, Nat.le_of_ble_eq_true rfl⟩ ⟨Nat.le_of_ble_eq_true rfl, Nat.le_of_ble_eq_true rfl⟩ dX11_line_43 (fun w9 H locs hro hF hz9 hk9 hun => ?_)
            have hL := hL.keep hun trivial
            obtain ⟨w8, rfl, hw8, -⟩ := RO_some rfl hro
            obtain ⟨r0, rfl, -⟩ := avi_int rfl hw8
            refine vx_ret (W.widen (k := 1) (n := 6) (Nat.zero_le _) (Nat.zero_le _) ?_)
            exact W.iret hx hb B.returns (fun t ht _ => ⟨⟨r0, (), rfl, trivial, by rw [ht]; exact hF.1, by rw [ht]; exact hL⟩, hF.2.2.2.F ht⟩) hF.2.2.2.2.2 dX11_line_46 X.2.2.2.2.2.2.2.2
        · refine vx_throw0 (pc := 31) (own := RX11) (cls := XNN) (names := XUP) (ik := 127) (ic := 129) (A := (AA Γ s.heap.size)) hx hb hfl X.2.2.2.1 (by decide +kernel) (by decide +kernel) (X.2.2.2.2.1 _ m_1161) (X.2.2.2.2.1 _ m_17)
            (vx_hat (fun w hw => X.2.2.2.2.1 w (xat_bw w hw)) xat_ng (vx_c (va_Nw.use rfl hTh.2.2.1) (vx_c (va_Nw.use rfl hTh.2.2.2.1) (vx_c (va_Nw.use rfl hTh.2.2.2.2.1) (vx_c (va_Nw.use rfl hTh.2.2.2.2.2) vx_n))))) (fun w hw => List.all_eq_true.mp xat_ot w hw) hTh.1 hTh.2.1 hF.2.2.2 (hl.1.trans hml.symm) dX11_line_31 dX11_line_34 dX11_line_35 dX11_line_38 (fun x hx9 => (htab x hx9).elim)
            (by decide) (by decide) (Nat.le_of_ble_eq_true rfl) (Nat.le_of_ble_eq_true rfl) X.2.2.2.2.2.2.2.2 (fun t _ hz hq => ⟨(), trivial, ⟨rfl, HT_ext hF.1 fun q hq9 => hq q (hF.1.lt hq9), hL.same fun q hq9 => hq q (hF.1.lt hq9)⟩, Nat.le_trans hF.2.2.2.1 hz, fun q h1 h2 => (hq q (Nat.lt_of_lt_of_le h1 hF.2.2.2.1)).trans (hF.2.2.2.2.1 q h1 h2)⟩) hF.2.2.2.2.2 (Nat.le_of_ble_eq_true rfl) (Nat.le_of_ble_eq_true rfl)
  · refine lv_astoreN (lv' := [(4, .null), (0, .ref x0), (1, .int p0), (2, .int p1), (3, .int p2)]) (pc := 5) hx hb dX11_line_5 hl (by decide) rfl (fun ls hl => ?_)
    refine lv_aloadN (pc := 7) hx hb dX11_line_7 (lv_at hl 0 rfl) ?_
    refine lv_ifnullN (tgt := 31) (pc := 9) hx hb dX11_line_9 rfl ?_
    refine vx_throw0 (pc := 31) (own := RX11) (cls := XNN) (names := XUP) (ik := 127) (ic := 129) (A := (AA Γ s.heap.size)) hx hb hfl X.2.2.2.1 (by decide +kernel) (by decide +kernel) (X.2.2.2.2.1 _ m_1161) (X.2.2.2.2.1 _ m_17)
      (vx_hat (fun w hw => X.2.2.2.2.1 w (xat_bw w hw)) xat_ng (vx_c (va_Nw.use rfl hTh.2.2.1) (vx_c (va_Nw.use rfl hTh.2.2.2.1) (vx_c (va_Nw.use rfl hTh.2.2.2.2.1) (vx_c (va_Nw.use rfl hTh.2.2.2.2.2) vx_n))))) (fun w hw => List.all_eq_true.mp xat_ot w hw) hTh.1 hTh.2.1 hF.2.2.2 (hl.1.trans hml.symm) dX11_line_31 dX11_line_34 dX11_line_35 dX11_line_38 (fun x hx9 => (htab x hx9).elim)
      (by decide) (by decide) (Nat.le_of_ble_eq_true rfl) (Nat.le_of_ble_eq_true rfl) X.2.2.2.2.2.2.2.2 (fun t _ hz hq => ⟨(), trivial, ⟨rfl, HT_ext hF.1 fun q hq9 => hq q (hF.1.lt hq9), hL.same fun q hq9 => hq q (hF.1.lt hq9)⟩, Nat.le_trans hF.2.2.2.1 hz, fun q h1 h2 => (hq q (Nat.lt_of_lt_of_le h1 hF.2.2.2.1)).trans (hF.2.2.2.2.1 q h1 h2)⟩) hF.2.2.2.2.2 (Nat.le_of_ble_eq_true rfl) (Nat.le_of_ble_eq_true rfl)

def OPREU (g : GG) (x0 m0 o0 : Nat) (Γ : Nat → Nat) (Hs : Heap) (sz : Nat) : State → Prop := fun U => U.heap.size = sz ∧ HT g TS0 Γ U.heap ∧ KX g U ∧ TB g (AO Γ o0 sz) U U.heap ∧ LFU g x0 m0 Γ Hs U.heap ∧ THR (AO Γ o0 sz) U U.heap ∧ ORW g o0 U.heap
theorem OPREU.blind {g : GG} {x0 m0 o0 sz : Nat} {Γ : Nat → Nat} {Hs : Heap} {As : List Value} : FrameBlind (va_Pc As (OPREU g x0 m0 o0 Γ Hs sz)) := by
  intro a U f mk q
  obtain ⟨q0, q1, q2, qK, qT, qL, ⟨q4, q5, q6⟩, qO⟩ := q
  exact ⟨q0, q1, q2, qK.calling, TB.moved (u := U) (U := U.calling f mk a) (Vm.Alike.refl U.vm) qT, qL, ⟨vx_Zq.moved (u := U) (U := U.calling f mk a) (Vm.Alike.refl U.vm) q4, vx_Zq.moved (u := U) (U := U.calling f mk a) (Vm.Alike.refl U.vm) q5, va_Nw.same rfl rfl q6.1, va_Nw.same rfl rfl q6.2.1, va_Nw.same rfl rfl q6.2.2.1, va_Nw.same rfl rfl q6.2.2.2⟩, qO⟩
set_option maxHeartbeats 4000000 in
set_option maxRecDepth 100000 in
theorem GL_lineU (l : Launch) (hfl : l.stackTraces = false) (g : GG) (x0 m0 o0 : Nat) (p0 p1 p2 : Int32) (Γ : Nat → Nat) (Hs : Heap) (sz : Nat) (hU : UQ TS0 Γ) (ho : Γ o0 = 0) : Met l yL_line (Cond.codeWith yL_line cL_line 6 (some .int) [(0, 12, 15, 13)] :: BW) (RM 8 1 6) (va_Pc [.ref x0, .int p0, .int p1, .int p2, .ref o0] (OPREU g x0 m0 o0 Γ Hs sz)) (fun _ st o t => ∃ r : Int32, o = .returned (some (.int r)) ∧ LBU g x0 m0 Γ Hs t ∧ ORW g o0 t.heap ∧ va_F (AO Γ o0 sz) st t) 1 6 (AO Γ o0 sz) := by
  refine va_MetW (cc := cL_line) (maxL := 6) (ret := (some .int)) (hh := [(0, 12, 15, 13)]) (by decide) rfl ?_
  intro p e s m args below meth c s₁ B hml hv
  obtain ⟨rfl, hsz, hT, hK, hTB, hL, hTh, f0, hO⟩ := hv
  subst hsz
  have hts := atoms_spec (ws := Cond.codeWith yL_line cL_line 6 (some .int) [(0, 12, 15, 13)] :: BW) B.pre
  have htab := vx_table (x := yL_line) B (hts _ List.mem_cons_self)
  have hl := lv_entry ([.ref x0, .int p0, .int p1, .int p2, .ref o0]) (n := 6) (Nat.le_of_ble_eq_true rfl)
  rw [lg_entry_eq]
  generalize (lg_sl ([.ref x0, .int p0, .int p1, .int p2, .ref o0]) ++ List.replicate (6 - (lg_sl ([.ref x0, .int p0, .int p1, .int p2, .ref o0])).length) Slot.unset).toArray = ls at hl ⊢
  have hl : lv_has ls 6 [(0, .ref x0), (1, .int p0), (2, .int p1), (3, .int p2), (4, .ref o0)] := hl
  have X : CTX p l m meth c cL_line 6 s _ RL g (AO Γ o0 s.heap.size) := ⟨B.exec, B.bytes, hml, findClass_of_methodNamed B.named, fun w h => hts w (List.mem_cons_of_mem _ h), hK, hTB, fun q h => Or.inl (Or.inr h), B.notSynchronized⟩
  have hF : FR g (AO Γ o0 s.heap.size) s Γ s.heap [] := ⟨hT, hU, fun q h => Or.inl (Or.inl h), va_S.rf⟩
  have hx := X.1
  have hb := X.2.1
  have hr := B.returns
  have hAA : ∀ q, AA Γ s.heap.size q → AO Γ o0 s.heap.size q := fun q h => Or.inl h
  refine lv_aload (pc := 0) hx hb dL_line_0 (lv_at hl 4 rfl) ?_
  refine lv_iconst (v := 0) (pc := 2) hx hb dL_line_2 (by decide) ?_
  refine lv_aload_n (pc := 3) hx hb dL_line_3 rfl (lv_at hl 0 rfl) ?_
  refine lv_iload_n (pc := 4) hx hb dL_line_4 rfl (lv_at hl 1 rfl) ?_
  refine lv_iload_n (pc := 5) hx hb dL_line_5 rfl (lv_at hl 2 rfl) ?_
  refine lv_iload_n (pc := 6) hx hb dL_line_6 rfl (lv_at hl 3 rfl) ?_
  refine vx_calli (vx_runV (As := [.int p0, .int p1, .int p2]) (rest := [.int 0, .ref o0]) ⟨X.1, X.2.1, X.2.2.1, X.2.2.2.1, X.2.2.2.2.1⟩ (GX11_lineU l hfl g x0 m0 p0 p1 p2 Γ Hs s.heap.size hU) (k_cwV X vL_7 ⟨Nat.le_of_ble_eq_true rfl, Nat.le_of_ble_eq_true rfl⟩) ⟨LPREU.blind, f_recv X hF (by rw [hL.1]; decide) ((congrArg TS0.1 hL.1).trans rfl) rfl, fun U hU2 hWm => ⟨rfl, by rw [hU2], f_pre X hF U hU2 hWm rfl, by rw [hU2]; exact hL, hTh.sub va_S.rf hAA hU2 hWm⟩⟩ rfl rfl hl.1 rfl (lv_room (Nat.le_of_ble_eq_true rfl)) dL_line_7 ⟨Nat.le_of_ble_eq_true rfl, Nat.le_of_ble_eq_true rfl⟩) hF.2.2.2 (fun q _ h => hAA q h) hAA (fun q _ h => hAA q h)
    (fun E ce q9 u t H1 locs1 ht hvm _ hE hz1 hk1 hS hce hcv hcl => ?_) (fun r u t H1 locs1 ht hvm _ hB hz1 hk1 hS => ?_)
  · obtain ⟨rfl, hB1, hB2⟩ := hE
    have hO1 : ORW g o0 H1 := ⟨f0, hO.kept (hk1 o0 hO.lt fun h => h.elim (fun h => h ho) (fun h => absurd hO.lt (Nat.not_lt.mpr h)))⟩
    refine vx_catch (own := RL) (name := XNN) X.2.2.2.1 [] ⟨0, 12, 15, 13⟩ [] (by rw [htab]; rfl) (fun z hz => absurd hz List.not_mem_nil) (by decide) (by decide) (X.2.2.2.2.1 _ m_1156) (va_Nw.use rfl hTh.2.2.1) hce hcv hcl ?_
    refine lv_astore (lv' := [(5, .ref q9), (0, .ref x0), (1, .int p0), (2, .int p1), (3, .int p2), (4, .ref o0)]) (pc := 15) hx hb dL_line_15 hl (by decide) rfl (fun ls hl => ?_)
    refine lv_iconst (v := 1) (pc := 17) hx hb dL_line_17 (by decide) ?_
    refine W.widen (k := 1) (n := 6) (Nat.le_of_ble_eq_true rfl) (Nat.le_of_ble_eq_true rfl) ?_
    exact W.iret hx hb hr (fun t2 ht2 _ => ⟨1, rfl, by rw [LBU, ht2, ← ht]; exact ⟨hB1, hB2⟩, by rw [ht2]; exact hO1, hS.F ht2⟩) hS.2.2 dL_line_18 X.2.2.2.2.2.2.2.2
  · obtain ⟨hB1, hB2⟩ := hB
    rw [ht] at hB1 hB2
    have hO1 : va_at g.1 CLS (o0, .inl (g.2.1 2, (1, .inr (.inl f0)))) H1 := hO.kept (hk1 o0 hO.lt fun h => h.elim (fun h => h ho) (fun h => absurd hO.lt (Nat.not_lt.mpr h)))
    refine lv_i2l (pc := 10) hx hb dL_line_10 rfl ?_
    refine W.last hx hb hO1 ((X.2.2.2.2.2.1.1.2 2 _ rfl).1 1 (fun j => .long (f0 j))) (fun q => by cases q) (by show ¬ ((0 : Int32) < 0 ∨ (arrV _ 1 _).slots.size ≤ _); rw [arrV_size]; decide) rfl rfl dL_line_11 fun H2 e1 e2 e3 => ?_
    refine lv_goto (tgt := 19) (pc := 12) hx hb dL_line_12 rfl ?_
    refine lv_iconst (v := 0) (pc := 19) hx hb dL_line_19 (by decide) ?_
    refine W.widen (k := 1) (n := 6) (Nat.le_of_ble_eq_true rfl) (Nat.le_of_ble_eq_true rfl) ?_
    have hS2 := hS.put (k := (0 : Int32).toNatClampNeg) e2 e3 (Or.inr rfl)
    have hne : ∀ q : Nat, Γ q ≠ 0 → H2[q]? = H1[q]? := fun q hq => e3 q fun e => hq (by rw [e]; exact ho)
    exact W.iret hx hb hr (fun t2 ht2 _ => ⟨0, rfl, by rw [LBU, ht2]; exact ⟨HT_ext hB1 hne, hB2.same hne⟩, by
      rw [ht2]
      refine ⟨vp_updL f0 (0 : Int32).toNatClampNeg r.toInt64, ?_⟩
      show H2[o0]? = some (vp_cell _ _)
      rw [e1, vp_cell_l, vp_cell_l, arrV_store]
      congr 2
      funext y
      by_cases hy : y = (0 : Int32).toNatClampNeg
      · subst hy
        simp [updV, vp_updL]
      · simp only [updV, vp_updL, hy, if_false], hS2.F ht2⟩) hS2.2.2 dL_line_20 X.2.2.2.2.2.2.2.2


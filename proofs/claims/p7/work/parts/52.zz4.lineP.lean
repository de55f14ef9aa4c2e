/-! line of the class, told exactly -/
theorem Met.wide {l : Launch} {y : MethodName} {ws : List Cond} {d d' mc ms : Nat} {P : Array Value → State → Prop} {Q : Array Value → State → Outcome → State → Prop} {mc2 ms2 : Nat} {f : Nat → Prop} (h : Met l y ws (RM d mc ms) P Q mc2 ms2 f) (hd : d ≤ d') : Met l y ws (RM d' mc ms) P Q mc2 ms2 f := by
  intro p e h1 h2 h3 s m args below h4 h5 h6 h7
  refine h p e h1 h2 h3 s m args below h4 ?_ h6 h7
  have q := (Spec.appliesLoose_iff h4).mp h5
  refine (Spec.appliesLoose_iff h4).mpr ⟨q.1, q.2.1, q.2.2.1, q.2.2.2.1, q.2.2.2.2.1, q.2.2.2.2.2.1, ?_, q.2.2.2.2.2.2.2⟩
  have hr := q.2.2.2.2.2.2.1
  unfold State.hasRoom at hr ⊢
  obtain ⟨r, r5⟩ := Bool.and_eq_true_iff.mp hr
  obtain ⟨r, r4⟩ := Bool.and_eq_true_iff.mp r
  obtain ⟨r, r3⟩ := Bool.and_eq_true_iff.mp r
  obtain ⟨r1, r2⟩ := Bool.and_eq_true_iff.mp r
  have r1 := of_decide_eq_true r1
  have r2 := of_decide_eq_true r2
  have h40 : 40 * d ≤ 40 * d' := Nat.mul_le_mul_left _ hd
  exact Bool.and_eq_true_iff.mpr ⟨Bool.and_eq_true_iff.mpr ⟨Bool.and_eq_true_iff.mpr ⟨Bool.and_eq_true_iff.mpr ⟨decide_eq_true (Nat.le_trans (Nat.add_le_add_right (Nat.add_le_add_left h40 _) _) r1), decide_eq_true ⟨Nat.le_trans (Nat.add_le_add_left hd _) r2.1, Nat.le_trans (Nat.add_le_add_left hd _) r2.2.1, Nat.le_trans (Nat.add_le_add_left h40 _) r2.2.2.1, Nat.le_trans (Nat.add_le_add_left h40 _) r2.2.2.2.1, r2.2.2.2.2⟩⟩, r3⟩, r4⟩, r5⟩

theorem EXQ_of {l : Launch} {g : GG} {y : MethodName} {c : ByteArray} {n : Nat} {r : Option FieldType} {sp : SPEC} {Γ : Nat → Nat} {As : List Value} {Pre : Heap → Prop} {Post : Heap → Value → Heap → Prop} (hM : SM l g TS0 y c n r sp) (hU : UQ TS0 Γ) (hV : VR g Γ sp.2.1 As) (hpf : sp.2.2.2.2.2 = [])
    (h : ∀ H : Heap, HT g TS0 Γ H → Pre H → ∃ (d : Nat) (ws : va_W) (post : Option Nat → va_W → Prop), d ≤ sp.1 ∧ MetQ l g y c n r d 0 0 As ws post ∧ va_P g.1 CLS ws H ∧ va_D (fun q => Γ q ≠ 0) ws ∧ ∀ (x : Option Nat) (u : va_W) (H1 : Heap), post x u → va_P g.1 CLS u H1 → H1.size = H.size → (∀ q : Nat, q < H.size → ¬ va_A ws H.size q → H1[q]? = H[q]?) → HT g TS0 Γ H1 → Un g TS0 Γ sp.2.2.2.2.1 H H1 → Post H (va_rf x) H1) : EX l g y c n r sp Γ As Pre Post := by
  intro p e a1 a2 a3 s m args below b1 b2 b3 b4
  obtain ⟨ea, ⟨hT, hK, hTB, hPF⟩, hPre⟩ := b3
  obtain ⟨d, ws, post, hd, hX, hP, hD, hQ⟩ := h s.heap hT hPre
  have hA : ∀ q, va_A ws s.heap.size q → AA Γ s.heap.size q := fun q hq => by
    rcases hq with ⟨k, e, hq⟩ | hq
    · exact Or.inl (hD.2 k _ hq)
    · exact Or.inr hq
  have h1 := hM Γ As hU hV p e a1 a2 a3 s m args below b1 b2 ⟨ea, hT, hK, hTB, by rw [hpf]; exact hPF⟩ b4
  have h2 := Met.wide (hX s.heap.size) hd p e a1 a2 a3 s m args below b1 b2 ⟨ea, rfl, hP, hK, hD.weaken (fun _ _ _ _ => trivial), hTB.narrow hA⟩ b4
  obtain ⟨k, o, c1, c2, c3, c4, L, c5, c6⟩ := h1
  obtain ⟨k', o', d1, d2, d3, d4, -⟩ := h2
  have hk : k = k' := by
    rcases Nat.lt_trichotomy k k' with h | h | h
    · exact absurd (d1 k h) c3.not_within
    · exact h
    · exact absurd (c1 k' h) d3.not_within
  subst hk
  have ho := c3.outcome_unique d3
  subst ho
  refine ⟨k, o, c1, c2, c3, ⟨c4, fun v hv => ?_⟩, L, c5, c6⟩
  obtain ⟨⟨x, u, ho, hp, hB⟩, hF⟩ := d4
  obtain ⟨v9, hv9, -, hT1, hz, -, hun⟩ := c4
  rw [ho] at hv
  cases hv
  exact hQ x u _ hp hB.1 hz hF.2 hT1 hun

section
variable {p : Program} {l : Launch} {e : Env} {R : Room} {s : State} {m : MethodId} {args : Array Value} {below : List Frame} {meth : Method} {c : Code} {cc : ByteArray} {nL : Nat} {own : String} {g : GG} {A : Nat → Prop} {Γ : Nat → Nat} {H : Heap} {locs : List Loc} {cells slots pc : Nat} {ls : Array Slot} {stk : List Value} {Q : State → Prop}
theorem f_callE (X : CTX p l m meth c cc nL s args own g A) (hF : FR g A s Γ H locs) {idx na maxL b ci N : Nat} {sp : SPEC} {y : MethodName} {cb : ByteArray} {r : Option FieldType} {C : String} {T : u_T} {As rs : List Value} {fs : List AV} {Pre : Heap → Prop} {Post : Heap → Value → Heap → Prop} (hM : EX l g y cb maxL r sp Γ (.ref b :: As) Pre Post) (hl : LV own idx C y cb maxL r na) (hci : CLS[ci]? = some (C, T, N)) (hb : Γ b ≠ 0) (ht : TS0.1 (Γ b) = .inl (ci, fs)) (hPre : Pre H) (hlen : As.length = na) (hls : ls.size = nL) (hstk : stk = As.reverse ++ .ref b :: rs) (hroom : (rs.map fun v => v.category).sum ≤ 8) (hRm : sp.1 + 1 ≤ R.frames ∧ 8 + (maxL + 11) + 40 * sp.1 ≤ R.locals) (hc : cells ≤ R.cells ∧ slots ≤ R.slots) (hdg : decode cc pc = .ok (.invokevirtual idx, 3))
    (kk : ∀ (v : Option Value) (H1 : Heap) (locs1 : List Loc), RO g Γ sp (.ref b :: As) v → (∀ w, v = some w → Post H w H1) → FR g A s Γ H1 locs1 → H1.size = H.size → (∀ q : Nat, Γ q = 0 → H1[q]? = H[q]?) → Un g TS0 Γ sp.2.2.2.2.1 H H1 → W p l e R s m args below meth c H1 locs1 cells slots Q (F0 m (pc + 3) ls (v.toList ++ rs))) : W p l e R s m args below meth c H locs cells slots Q (F0 m pc ls stk) := by
  subst hstk
  intro T0 hT X0
  obtain ⟨v, st₀, t1, T', L1, h0', X', hL, e1, e2, ⟨⟨v2, hv, hro, hh, hz, hk, hu⟩, hP⟩, st⟩ := va_runV (e := e) (below := below) (locs := locs) (rest := rs) ⟨X.1, X.2.1, X.2.2.1, X.2.2.2.1, X.2.2.2.2.1⟩ hM (k_cwV X hl hRm) ⟨EX.blind, f_recv X hF hb ht hci, fun U hU hWm => ⟨rfl, f_pre X hF U hU hWm rfl, by rw [hU]; exact hPre⟩⟩ rfl hlen hls rfl (lv_room hroom) hdg hc T0 hT X0
  cases hv
  rw [h0'] at hz hk hu hP
  rw [← e1] at hh hz hk hu hP
  have hS1 : va_S A s.heap T'.heap (locs ++ L1) := by
    refine ⟨by rw [hz]; exact hF.2.2.2.1, fun q h1 h2 => ?_, fun l hl => ?_⟩
    · have h3 : Γ q = 0 := Classical.byContradiction fun z => h2 (hF.2.2.1 q z)
      exact (hk q h3).trans (hF.2.2.2.2.1 q h1 h2)
    · rcases List.mem_append.mp hl with h | h
      · exact hF.2.2.2.2.2 l h
      · exact hF.2.2.1 _ (hL l h)
  obtain ⟨t2, a1, b1⟩ := kk v T'.heap (locs ++ L1) hro (fun w hw => hP w (by rw [hw])) ⟨hh, hF.2.1, hF.2.2.1, hS1⟩ hz hk hu T' rfl X'
  exact ⟨t2, st t2 a1, b1⟩
end
/-- the valley of a number, or nothing -/
theorem E11_valleyAtX {l : Launch} {g : GG} {Γ : Nat → Nat} {x0 n nv np : Nat} {fb : Nat → Int32} {V : Nat → VV} (hU : UQ TS0 Γ) (hnv : nv ≤ 10) (tx : Γ x0 = 1) (p0 : Int32) : EX l g yX11_valleyAt cX11_valleyAt 2 (some (.object "NoonValley$Valley")) pX11_valleyAt_0 Γ [.ref x0, .int p0] (fun H => RC1 g x0 n fb nv np H ∧ RCV g x0 nv V H) (fun H v _ => (F_X12_isValley nv p0 = 0 ∧ v = .null) ∨ ∃ a : Nat, v = .ref a ∧ Γ a = 3 ∧ ¬ F_X12_isValley nv p0 = 0 ∧ VOK (V (tN p0)) ∧ VC g a (V (tN p0)) H) :=
  EXQ_of (SX11_valleyAt_0 l g) hU ⟨av_ref tx (by decide), avi_top _, trivial⟩ rfl fun H hT hR => by
    obtain ⟨hR, va, fA, sp, g1, g9, g10, g14, g15, g16, g17⟩ := hR
    obtain ⟨t0, tq, va', pa, sp', fA', fB, ⟨e0, eq, ea, ep, es⟩, h0, h1, h2, h3, h4, h5, h6, h7, h8, -, -, -, -, h13⟩ := hR.tags hT tx
    cases FE_fun g1 h1
    cases FE_fun g15 h3
    obtain ⟨c3, c4, c5, c6, c7, c8, c9, cc, A0⟩ := DV1 hT tx h0 h1 h2 h3 h4 h5
    rcases vin_cases (n := nv) (by omega) p0 with hb | ⟨i, hi, rfl⟩
    · refine ⟨0, _, _, by decide, C_X11_valleyAt0 l g x0 t0 va pa c3 c4 c5 c6 c7 c8 c9 sp nv np cc fA p0 hb, vaP_cons A0 (vaP_cons g9 vaP_nil), D_tags (tl := [1, 20]) (by show [Γ x0, Γ va] = _; rw [tx, ea]) (by decide) (by decide), fun x u H1 hp hP hz hk hT1 hun => Or.inl ⟨rv_no hb, ?_⟩⟩
      rw [hp.1]; rfl
    · obtain ⟨ok, v, hv, hV⟩ := g10 i hi
      have tv := RCV.tag hT tx g1 g9 (by omega) hv
      refine ⟨0, _, _, by decide, C_X11_valleyAt1 l g x0 t0 va pa c3 c4 c5 c6 c7 c8 c9 sp nv np cc fA i v hi hnv hv, vaP_cons A0 (vaP_cons g9 vaP_nil), D_tags (tl := [1, 20]) (by show [Γ x0, Γ va] = _; rw [tx, ea]) (by decide) (by decide), fun x u H1 hp hP hz hk hT1 hun => Or.inr ⟨v, ?_, tv, rv_yes hnv hi, ?_⟩⟩
      · rw [hp.1]; rfl
      · rw [tN_nI (by omega)]; exact ⟨ok, hV⟩
theorem E10_hasLineX {l : Launch} {g : GG} {Γ : Nat → Nat} {v : Nat} {w : VV} (hU : UQ TS0 Γ) (tv : Γ v = 3) (p1 : Int32) : EX l g yX10_hasLine cX10_hasLine 2 (some .boolean) pX10_hasLine_0 Γ [.ref v, .int p1] (fun H => VC g v w H) (fun _ r _ => r = .int (F_X10_hasLine (nI w.lc) p1)) :=
  EX_of (SX10_hasLine_0 l g) hU ⟨av_ref tv (by decide), avi_top _, trivial⟩ rfl fun H hT hV => by
    obtain ⟨gl, v15, hP0⟩ := hV
    exact ⟨0, _, _, by decide, K_X10_hasLine l g v (v + 1) (v + 2) (v + 3) (v + 4) (v + 5) (v + 6) (v + 7) (v + 8) (v + 9) (v + 10) (v + 11) v15 (nI w.p) (nI w.lc) w.de gl p1, vaP_cons (hP0 0 _ rfl) vaP_nil, D_tags (tl := [3]) (by show [Γ v] = _; rw [tv]) (by decide) (by decide), fun x u H1 hp hP hz hk hT1 hun => congrArg Value.int hp.1⟩

theorem E10_lineFactX0 {l : Launch} {g : GG} {Γ : Nat → Nat} {v : Nat} {w : VV} (hU : UQ TS0 Γ) (tv : Γ v = 3) {p1 : Int32} (hp1 : avi g Γ (vi 0 11) (.int p1)) : EX l g yX10_lineFact cX10_lineFact 3 (some .int) pX10_lineFact_h0 Γ [.ref v, .int p1, .int 0] (fun H => VC g v w H) (fun _ r _ => r = .int (w.L (tN p1 * 6 + 0))) :=
  EX_of (SX10_lineFact_h0 l g) hU ⟨av_ref tv (by decide), hp1, ⟨rfl, by decide, by decide⟩, trivial⟩ rfl fun H hT hV => by
    obtain ⟨gl, v15, hP0⟩ := hV
    obtain ⟨s1, s2, s3, s4, s5, s6, s7, s8, s9, s10, s11⟩ := (show VC g v w H from ⟨gl, v15, hP0⟩).tags hT tv
    obtain ⟨k, e1, -, h11⟩ := avi_nn hp1
    obtain ⟨q1, q2⟩ := tN_of (k := k) (by omega) e1
    have q3 : tN p1 < 12 := by rw [q2]; omega
    rw [q1]
    rw [tN_nI (show tN p1 < 2 ^ 31 by omega)]
    exact ⟨0, _, _, by decide, C_X10_lineFactG l g v (v + 1) (v + 2) (v + 3) (v + 4) (v + 5) (v + 6) (v + 7) (v + 8) (v + 9) (v + 10) (v + 11) v15 (nI w.p) (nI w.lc) w.de gl w.L (tN p1) 0 q3 (by omega), vaP_cons (hP0 0 _ rfl) (vaP_cons (hP0 7 _ rfl) vaP_nil), D_tags (tl := [3, 25]) (by show [Γ v, Γ (v + 7)] = _; rw [tv, s7]) (by decide) (by decide), fun x u H1 hp hP hz hk hT1 hun => congrArg Value.int hp.1⟩

theorem E10_lineFactX1 {l : Launch} {g : GG} {Γ : Nat → Nat} {v : Nat} {w : VV} (hU : UQ TS0 Γ) (tv : Γ v = 3) {p1 : Int32} (hp1 : avi g Γ (vi 0 11) (.int p1)) : EX l g yX10_lineFact cX10_lineFact 3 (some .int) pX10_lineFact_h1 Γ [.ref v, .int p1, .int 1] (fun H => VC g v w H) (fun _ r _ => r = .int (w.L (tN p1 * 6 + 1))) :=
  EX_of (SX10_lineFact_h1 l g) hU ⟨av_ref tv (by decide), hp1, ⟨rfl, by decide, by decide⟩, trivial⟩ rfl fun H hT hV => by
    obtain ⟨gl, v15, hP0⟩ := hV
    obtain ⟨s1, s2, s3, s4, s5, s6, s7, s8, s9, s10, s11⟩ := (show VC g v w H from ⟨gl, v15, hP0⟩).tags hT tv
    obtain ⟨k, e1, -, h11⟩ := avi_nn hp1
    obtain ⟨q1, q2⟩ := tN_of (k := k) (by omega) e1
    have q3 : tN p1 < 12 := by rw [q2]; omega
    rw [q1]
    rw [tN_nI (show tN p1 < 2 ^ 31 by omega)]
    exact ⟨0, _, _, by decide, C_X10_lineFactG l g v (v + 1) (v + 2) (v + 3) (v + 4) (v + 5) (v + 6) (v + 7) (v + 8) (v + 9) (v + 10) (v + 11) v15 (nI w.p) (nI w.lc) w.de gl w.L (tN p1) 1 q3 (by omega), vaP_cons (hP0 0 _ rfl) (vaP_cons (hP0 7 _ rfl) vaP_nil), D_tags (tl := [3, 25]) (by show [Γ v, Γ (v + 7)] = _; rw [tv, s7]) (by decide) (by decide), fun x u H1 hp hP hz hk hT1 hun => congrArg Value.int hp.1⟩

theorem E10_lineFactX2 {l : Launch} {g : GG} {Γ : Nat → Nat} {v : Nat} {w : VV} (hU : UQ TS0 Γ) (tv : Γ v = 3) {p1 : Int32} (hp1 : avi g Γ (vi 0 11) (.int p1)) : EX l g yX10_lineFact cX10_lineFact 3 (some .int) pX10_lineFact_h2 Γ [.ref v, .int p1, .int 2] (fun H => VC g v w H) (fun _ r _ => r = .int (w.L (tN p1 * 6 + 2))) :=
  EX_of (SX10_lineFact_h2 l g) hU ⟨av_ref tv (by decide), hp1, ⟨rfl, by decide, by decide⟩, trivial⟩ rfl fun H hT hV => by
    obtain ⟨gl, v15, hP0⟩ := hV
    obtain ⟨s1, s2, s3, s4, s5, s6, s7, s8, s9, s10, s11⟩ := (show VC g v w H from ⟨gl, v15, hP0⟩).tags hT tv
    obtain ⟨k, e1, -, h11⟩ := avi_nn hp1
    obtain ⟨q1, q2⟩ := tN_of (k := k) (by omega) e1
    have q3 : tN p1 < 12 := by rw [q2]; omega
    rw [q1]
    rw [tN_nI (show tN p1 < 2 ^ 31 by omega)]
    exact ⟨0, _, _, by decide, C_X10_lineFactG l g v (v + 1) (v + 2) (v + 3) (v + 4) (v + 5) (v + 6) (v + 7) (v + 8) (v + 9) (v + 10) (v + 11) v15 (nI w.p) (nI w.lc) w.de gl w.L (tN p1) 2 q3 (by omega), vaP_cons (hP0 0 _ rfl) (vaP_cons (hP0 7 _ rfl) vaP_nil), D_tags (tl := [3, 25]) (by show [Γ v, Γ (v + 7)] = _; rw [tv, s7]) (by decide) (by decide), fun x u H1 hp hP hz hk hT1 hun => congrArg Value.int hp.1⟩

theorem E10_lineFactX3 {l : Launch} {g : GG} {Γ : Nat → Nat} {v : Nat} {w : VV} (hU : UQ TS0 Γ) (tv : Γ v = 3) {p1 : Int32} (hp1 : avi g Γ (vi 0 11) (.int p1)) : EX l g yX10_lineFact cX10_lineFact 3 (some .int) pX10_lineFact_h3 Γ [.ref v, .int p1, .int 3] (fun H => VC g v w H) (fun _ r _ => r = .int (w.L (tN p1 * 6 + 3))) :=
  EX_of (SX10_lineFact_h3 l g) hU ⟨av_ref tv (by decide), hp1, ⟨rfl, by decide, by decide⟩, trivial⟩ rfl fun H hT hV => by
    obtain ⟨gl, v15, hP0⟩ := hV
    obtain ⟨s1, s2, s3, s4, s5, s6, s7, s8, s9, s10, s11⟩ := (show VC g v w H from ⟨gl, v15, hP0⟩).tags hT tv
    obtain ⟨k, e1, -, h11⟩ := avi_nn hp1
    obtain ⟨q1, q2⟩ := tN_of (k := k) (by omega) e1
    have q3 : tN p1 < 12 := by rw [q2]; omega
    rw [q1]
    rw [tN_nI (show tN p1 < 2 ^ 31 by omega)]
    exact ⟨0, _, _, by decide, C_X10_lineFactG l g v (v + 1) (v + 2) (v + 3) (v + 4) (v + 5) (v + 6) (v + 7) (v + 8) (v + 9) (v + 10) (v + 11) v15 (nI w.p) (nI w.lc) w.de gl w.L (tN p1) 3 q3 (by omega), vaP_cons (hP0 0 _ rfl) (vaP_cons (hP0 7 _ rfl) vaP_nil), D_tags (tl := [3, 25]) (by show [Γ v, Γ (v + 7)] = _; rw [tv, s7]) (by decide) (by decide), fun x u H1 hp hP hz hk hT1 hun => congrArg Value.int hp.1⟩

theorem E10_lineFactX4 {l : Launch} {g : GG} {Γ : Nat → Nat} {v : Nat} {w : VV} (hU : UQ TS0 Γ) (tv : Γ v = 3) {p1 : Int32} (hp1 : avi g Γ (vi 0 11) (.int p1)) : EX l g yX10_lineFact cX10_lineFact 3 (some .int) pX10_lineFact_h4 Γ [.ref v, .int p1, .int 4] (fun H => VC g v w H) (fun _ r _ => r = .int (w.L (tN p1 * 6 + 4))) :=
  EX_of (SX10_lineFact_h4 l g) hU ⟨av_ref tv (by decide), hp1, ⟨rfl, by decide, by decide⟩, trivial⟩ rfl fun H hT hV => by
    obtain ⟨gl, v15, hP0⟩ := hV
    obtain ⟨s1, s2, s3, s4, s5, s6, s7, s8, s9, s10, s11⟩ := (show VC g v w H from ⟨gl, v15, hP0⟩).tags hT tv
    obtain ⟨k, e1, -, h11⟩ := avi_nn hp1
    obtain ⟨q1, q2⟩ := tN_of (k := k) (by omega) e1
    have q3 : tN p1 < 12 := by rw [q2]; omega
    rw [q1]
    rw [tN_nI (show tN p1 < 2 ^ 31 by omega)]
    exact ⟨0, _, _, by decide, C_X10_lineFactG l g v (v + 1) (v + 2) (v + 3) (v + 4) (v + 5) (v + 6) (v + 7) (v + 8) (v + 9) (v + 10) (v + 11) v15 (nI w.p) (nI w.lc) w.de gl w.L (tN p1) 4 q3 (by omega), vaP_cons (hP0 0 _ rfl) (vaP_cons (hP0 7 _ rfl) vaP_nil), D_tags (tl := [3, 25]) (by show [Γ v, Γ (v + 7)] = _; rw [tv, s7]) (by decide) (by decide), fun x u H1 hp hP hz hk hT1 hun => congrArg Value.int hp.1⟩

theorem E10_lineFactX5 {l : Launch} {g : GG} {Γ : Nat → Nat} {v : Nat} {w : VV} (hU : UQ TS0 Γ) (tv : Γ v = 3) {p1 : Int32} (hp1 : avi g Γ (vi 0 11) (.int p1)) : EX l g yX10_lineFact cX10_lineFact 3 (some .int) pX10_lineFact_h5 Γ [.ref v, .int p1, .int 5] (fun H => VC g v w H) (fun _ r _ => r = .int (w.L (tN p1 * 6 + 5))) :=
  EX_of (SX10_lineFact_h5 l g) hU ⟨av_ref tv (by decide), hp1, ⟨rfl, by decide, by decide⟩, trivial⟩ rfl fun H hT hV => by
    obtain ⟨gl, v15, hP0⟩ := hV
    obtain ⟨s1, s2, s3, s4, s5, s6, s7, s8, s9, s10, s11⟩ := (show VC g v w H from ⟨gl, v15, hP0⟩).tags hT tv
    obtain ⟨k, e1, -, h11⟩ := avi_nn hp1
    obtain ⟨q1, q2⟩ := tN_of (k := k) (by omega) e1
    have q3 : tN p1 < 12 := by rw [q2]; omega
    rw [q1]
    rw [tN_nI (show tN p1 < 2 ^ 31 by omega)]
    exact ⟨0, _, _, by decide, C_X10_lineFactG l g v (v + 1) (v + 2) (v + 3) (v + 4) (v + 5) (v + 6) (v + 7) (v + 8) (v + 9) (v + 10) (v + 11) v15 (nI w.p) (nI w.lc) w.de gl w.L (tN p1) 5 q3 (by omega), vaP_cons (hP0 0 _ rfl) (vaP_cons (hP0 7 _ rfl) vaP_nil), D_tags (tl := [3, 25]) (by show [Γ v, Γ (v + 7)] = _; rw [tv, s7]) (by decide) (by decide), fun x u H1 hp hP hz hk hT1 hun => congrArg Value.int hp.1⟩

/-- what line answers; none: it throws -/
def lnO (nv : Nat) (V : Nat → VV) (p0 p1 p2 : Int32) : Option Int32 := if F_X12_isValley nv p0 = 0 then none else (if F_X10_hasLine (nI (V (tN p0)).lc) p1 = 0 then none else (if p2 < 0 then none else (if p2 < 6 then some ((V (tN p0)).L (tN p1 * 6 + tN p2)) else none)))
section
variable {nv : Nat} {V : Nat → VV} {p0 p1 p2 : Int32}
theorem lnO_v (h : F_X12_isValley nv p0 = 0) : lnO nv V p0 p1 p2 = none := if_pos h
theorem lnO_l (h : F_X10_hasLine (nI (V (tN p0)).lc) p1 = 0) : lnO nv V p0 p1 p2 = none := by
  unfold lnO
  by_cases q : F_X12_isValley nv p0 = 0
  · rw [if_pos q]
  · rw [if_neg q, if_pos h]
theorem lnO_0 (h : p2 < 0) : lnO nv V p0 p1 p2 = none := by
  unfold lnO
  by_cases q : F_X12_isValley nv p0 = 0
  · rw [if_pos q]
  · rw [if_neg q]
    by_cases q1 : F_X10_hasLine (nI (V (tN p0)).lc) p1 = 0
    · rw [if_pos q1]
    · rw [if_neg q1, if_pos h]
theorem lnO_6 (h0 : ¬ p2 < 0) (h : ¬ p2 < 6) : lnO nv V p0 p1 p2 = none := by
  unfold lnO
  by_cases q : F_X12_isValley nv p0 = 0
  · rw [if_pos q]
  · rw [if_neg q]
    by_cases q1 : F_X10_hasLine (nI (V (tN p0)).lc) p1 = 0
    · rw [if_pos q1]
    · rw [if_neg q1, if_neg h0, if_neg h]
theorem lnO_y (h1 : ¬ F_X12_isValley nv p0 = 0) (h2 : ¬ F_X10_hasLine (nI (V (tN p0)).lc) p1 = 0) (h3 : ¬ p2 < 0) (h4 : p2 < 6) : lnO nv V p0 p1 p2 = some ((V (tN p0)).L (tN p1 * 6 + tN p2)) := by
  unfold lnO
  rw [if_neg h1, if_neg h2, if_neg h3, if_pos h4]
end
/-- what the law's call of line left: it threw, or its answer lies in the law's row -/
def LNR (g : GG) (o0 : Nat) (o : Option Int32) (r : Int32) (H : Heap) : Prop := (o = none ∧ r = 1) ∨ ∃ x : Int32, o = some x ∧ r = 0 ∧ ∃ f : Nat → Int64, va_at g.1 CLS (o0, .inl (g.2.1 2, (1, .inr (.inl f)))) H ∧ f 0 = x.toInt64

set_option maxHeartbeats 8000000 in
set_option maxRecDepth 100000 in
theorem GX11_lineP (l : Launch) (hfl : l.stackTraces = false) (g : GG) (x0 m0 : Nat) (p0 p1 p2 : Int32) (Γ : Nat → Nat) (Hs : Heap) (sz : Nat) (hU : UQ TS0 Γ) {n nv np : Nat} {fb : Nat → Int32} {V : Nat → VV} (hnv : nv ≤ 10) (hTs : HT g TS0 Γ Hs) (hCs : RC1 g x0 n fb nv np Hs) (hDs : RCV g x0 nv V Hs) : vx_Met l yX11_line (WW yX11_line cX11_line 5 (some .int)) (RM 7 1 6) (va_Pc [.ref x0, .int p0, .int p1, .int p2] (LPREU g x0 m0 Γ Hs sz [.ref x0, .int p0, .int p1, .int p2])) (va_Qi (fun (x : Int32) (_ : Unit) => lnO nv V p0 p1 p2 = some x) (fun _ t => LBU g x0 m0 Γ Hs t) (AA Γ sz)) (vx_X (fun _ : Unit => lnO nv V p0 p1 p2 = none) (fun E _ t => E = XNN ∧ LBU g x0 m0 Γ Hs t) (AA Γ sz)) 1 6 (AA Γ sz) := by
  refine vx_ofW (cc := cX11_line) (maxL := 5) (ret := (some .int)) (by decide) rfl ?_
  intro p e s m args below meth c s₁ B hml htab hv
  obtain ⟨rfl, hsz, ⟨hT, hK, hTB, -⟩, hL, hTh⟩ := hv
  subst hsz
  have hts := atoms_spec (ws := WW yX11_line cX11_line 5 (some .int)) B.pre
  have hl := lv_entry ([.ref x0, .int p0, .int p1, .int p2]) (n := 5) (Nat.le_of_ble_eq_true rfl)
  rw [lg_entry_eq]
  generalize (lg_sl ([.ref x0, .int p0, .int p1, .int p2]) ++ List.replicate (5 - (lg_sl ([.ref x0, .int p0, .int p1, .int p2])).length) Slot.unset).toArray = ls at hl ⊢
  have hl : lv_has ls 5 [(0, .ref x0), (1, .int p0), (2, .int p1), (3, .int p2)] := hl
  have X : CTX p l m meth c cX11_line 5 s _ RX11 g (AA Γ s.heap.size) := ⟨B.exec, B.bytes, hml, findClass_of_methodNamed B.named, fun w h => hts w (List.mem_cons_of_mem _ h), hK, hTB, fun q h => Or.inr h, B.notSynchronized⟩
  have hF : FR g (AA Γ s.heap.size) s Γ s.heap [] := ⟨hT, hU, fun q h => Or.inl h, va_S.rf⟩
  have hx := X.1
  have hb := X.2.1
  refine lv_aload_n (pc := 0) hx hb dX11_line_0 rfl (lv_at hl 0 rfl) ?_
  refine lv_iload_n (pc := 1) hx hb dX11_line_1 rfl (lv_at hl 1 rfl) ?_
  have hC0 : RC1 g x0 n fb nv np s.heap := RC1.keep hCs hTs hL.1 hL.2.2 rfl
  have hD0 : RCV g x0 nv V s.heap := RCV.keep hDs hnv hTs hT hL.1 hL.2.2 rfl
  refine f_callE (pc := 2) (ci := 11) (As := [.int p0]) (rs := []) X hF (E11_valleyAtX hU hnv hL.1 p0) vX11_101 rfl (by rw [hL.1]; decide) ((congrArg TS0.1 hL.1).trans rfl) ⟨hC0, hD0⟩ rfl hl.1 rfl (Nat.le_of_ble_eq_true rfl) ⟨Nat.le_of_ble_eq_true rfl, Nat.le_of_ble_eq_true rfl⟩ ⟨Nat.le_of_ble_eq_true rfl, Nat.le_of_ble_eq_true rfl⟩ dX11_line_2 (fun w9 H locs hro hP9 hF hz9 hk9 hun => ?_)
  have hL := hL.keep hun trivial
  obtain ⟨w8, rfl, -, -⟩ := RO_some rfl hro
  rcases Or.comm.mp (hP9 _ rfl) with ⟨v0, rfl, tv, hvy, hok, hVC⟩ | ⟨hvn, rfl⟩
  · have hVC1 : VC g v0 (V (tN p0)) H := hVC.keep hT hF.1 tv hun rfl
    refine lv_astore (lv' := [(4, .ref v0), (0, .ref x0), (1, .int p0), (2, .int p1), (3, .int p2)]) (pc := 5) hx hb dX11_line_5 hl (by decide) rfl (fun ls hl => ?_)
    refine lv_aload (pc := 7) hx hb dX11_line_7 (lv_at hl 0 rfl) ?_
    refine lv_ifnull (pc := 9) hx hb dX11_line_9 ?_
    refine lv_aload (pc := 12) hx hb dX11_line_12 (lv_at hl 0 rfl) ?_
    refine lv_iload_n (pc := 14) hx hb dX11_line_14 rfl (lv_at hl 3 rfl) ?_
    refine f_callE (pc := 15) (ci := 10) (As := [.int p1]) (rs := []) X hF (E10_hasLineX (w := V (tN p0)) hU tv p1) vX11_124 rfl (by rw [tv]; decide) ((congrArg TS0.1 tv).trans rfl) hVC1 rfl hl.1 rfl (Nat.le_of_ble_eq_true rfl) ⟨Nat.le_of_ble_eq_true rfl, Nat.le_of_ble_eq_true rfl⟩ ⟨Nat.le_of_ble_eq_true rfl, Nat.le_of_ble_eq_true rfl⟩ dX11_line_15 (fun w9 H locs hro hP9 hF2 hz9 hk9 hun => ?_)
    have hVC2 : VC g v0 (V (tN p0)) H := hVC1.keep hF.1 hF2.1 tv hun rfl
    have hF := hF2
    have hL := hL.keep hun trivial
    obtain ⟨w8, rfl, hw8, him⟩ := RO_some rfl hro
    obtain ⟨b0, rfl, hb0, hb1⟩ := avi_int rfl hw8
    have hbe : b0 = F_X10_hasLine (nI (V (tN p0)).lc) p1 := Value.int.inj (hP9 _ rfl)
    refine lv_if_eq (tgt := 31) (pc := 18) hx hb dX11_line_18 rfl (fun c1 => ?_) (fun c1 => ?_)
    · refine vx_throw0 (pc := 31) (own := RX11) (cls := XNN) (names := XUP) (ik := 127) (ic := 129) (A := (AA Γ s.heap.size)) hx hb hfl X.2.2.2.1 (by decide +kernel) (by decide +kernel) (X.2.2.2.2.1 _ m_1161) (X.2.2.2.2.1 _ m_17)
        (vx_hat (fun w hw => X.2.2.2.2.1 w (xat_bw w hw)) xat_ng (vx_c (va_Nw.use rfl hTh.2.2.1) (vx_c (va_Nw.use rfl hTh.2.2.2.1) (vx_c (va_Nw.use rfl hTh.2.2.2.2.1) (vx_c (va_Nw.use rfl hTh.2.2.2.2.2) vx_n))))) (fun w hw => List.all_eq_true.mp xat_ot w hw) hTh.1 hTh.2.1 hF.2.2.2 (hl.1.trans hml.symm) dX11_line_31 dX11_line_34 dX11_line_35 dX11_line_38 (fun x hx9 => (htab x hx9).elim)
        (by decide) (by decide) (Nat.le_of_ble_eq_true rfl) (Nat.le_of_ble_eq_true rfl) X.2.2.2.2.2.2.2.2 (fun t _ hz hq => ⟨(), lnO_l (hbe.symm.trans c1), ⟨rfl, HT_ext hF.1 fun q hq9 => hq q (hF.1.lt hq9), hL.same fun q hq9 => hq q (hF.1.lt hq9)⟩, Nat.le_trans hF.2.2.2.1 hz, fun q h1 h2 => (hq q (Nat.lt_of_lt_of_le h1 hF.2.2.2.1)).trans (hF.2.2.2.2.1 q h1 h2)⟩) hF.2.2.2.2.2 (Nat.le_of_ble_eq_true rfl) (Nat.le_of_ble_eq_true rfl)
    · have hp1 : avi g Γ (vi 0 11) (.int p1) := hl_im him rfl hb0 hb1 c1
      refine lv_iload_n (pc := 21) hx hb dX11_line_21 rfl (lv_at hl 4 rfl) ?_
      refine lv_if_lt (tgt := 31) (pc := 22) hx hb dX11_line_22 rfl (fun c2 => ?_) (fun c2 => ?_)
      · refine vx_throw0 (pc := 31) (own := RX11) (cls := XNN) (names := XUP) (ik := 127) (ic := 129) (A := (AA Γ s.heap.size)) hx hb hfl X.2.2.2.1 (by decide +kernel) (by decide +kernel) (X.2.2.2.2.1 _ m_1161) (X.2.2.2.2.1 _ m_17)
          (vx_hat (fun w hw => X.2.2.2.2.1 w (xat_bw w hw)) xat_ng (vx_c (va_Nw.use rfl hTh.2.2.1) (vx_c (va_Nw.use rfl hTh.2.2.2.1) (vx_c (va_Nw.use rfl hTh.2.2.2.2.1) (vx_c (va_Nw.use rfl hTh.2.2.2.2.2) vx_n))))) (fun w hw => List.all_eq_true.mp xat_ot w hw) hTh.1 hTh.2.1 hF.2.2.2 (hl.1.trans hml.symm) dX11_line_31 dX11_line_34 dX11_line_35 dX11_line_38 (fun x hx9 => (htab x hx9).elim)
          (by decide) (by decide) (Nat.le_of_ble_eq_true rfl) (Nat.le_of_ble_eq_true rfl) X.2.2.2.2.2.2.2.2 (fun t _ hz hq => ⟨(), lnO_0 c2, ⟨rfl, HT_ext hF.1 fun q hq9 => hq q (hF.1.lt hq9), hL.same fun q hq9 => hq q (hF.1.lt hq9)⟩, Nat.le_trans hF.2.2.2.1 hz, fun q h1 h2 => (hq q (Nat.lt_of_lt_of_le h1 hF.2.2.2.1)).trans (hF.2.2.2.2.1 q h1 h2)⟩) hF.2.2.2.2.2 (Nat.le_of_ble_eq_true rfl) (Nat.le_of_ble_eq_true rfl)
      · refine lv_iload_n (pc := 25) hx hb dX11_line_25 rfl (lv_at hl 4 rfl) ?_
        refine lv_bipush (v := 6) (pc := 26) hx hb dX11_line_26 (by decide) ?_
        refine lv_icmp_lt (tgt := 39) (pc := 28) hx hb dX11_line_28 rfl (fun c3 => ?_) (fun c3 => ?_)
        · refine lv_aload (pc := 39) hx hb dX11_line_39 (lv_at hl 0 rfl) ?_
          refine lv_iload_n (pc := 41) hx hb dX11_line_41 rfl (lv_at hl 3 rfl) ?_
          refine lv_iload_n (pc := 42) hx hb dX11_line_42 rfl (lv_at hl 4 rfl) ?_
          have hp2 := i32_06 c2 c3
          rcases hp2 with rfl | rfl | rfl | rfl | rfl | rfl
          · refine f_callE (pc := 43) (ci := 10) (As := [.int p1, .int 0]) (rs := []) X hF (E10_lineFactX0 (w := V (tN p0)) hU tv hp1) vX11_130 rfl (by rw [tv]; decide) ((congrArg TS0.1 tv).trans rfl) hVC2 rfl hl.1 rfl (Nat.le_of_ble_eq_true rfl) ⟨Nat.le_of_ble_eq_true rfl, Nat.le_of_ble_eq_true rfl⟩ ⟨Nat.le_of_ble_eq_true rfl, Nat.le_of_ble_eq_true rfl⟩ dX11_line_43 (fun w9 H locs hro hP9 hF hz9 hk9 hun => ?_)
            have hL := hL.keep hun trivial
            obtain ⟨w8, rfl, hw8, -⟩ := RO_some rfl hro
            obtain ⟨r0, rfl, -⟩ := avi_int rfl hw8
            have hre : r0 = (V (tN p0)).L (tN p1 * 6 + 0) := Value.int.inj (hP9 _ rfl)
            refine vx_ret (W.widen (k := 1) (n := 6) (Nat.zero_le _) (Nat.zero_le _) ?_)
            exact W.iret hx hb B.returns (fun t ht _ => ⟨⟨r0, (), rfl, (lnO_y hvy (fun z => c1 (hbe.trans z)) c2 c3).trans (congrArg some hre.symm), by rw [ht]; exact hF.1, by rw [ht]; exact hL⟩, hF.2.2.2.F ht⟩) hF.2.2.2.2.2 dX11_line_46 X.2.2.2.2.2.2.2.2
          · refine f_callE (pc := 43) (ci := 10) (As := [.int p1, .int 1]) (rs := []) X hF (E10_lineFactX1 (w := V (tN p0)) hU tv hp1) vX11_130 rfl (by rw [tv]; decide) ((congrArg TS0.1 tv).trans rfl) hVC2 rfl hl.1 rfl (Nat.le_of_ble_eq_true rfl) ⟨Nat.le_of_ble_eq_true rfl, Nat.le_of_ble_eq_true rfl⟩ ⟨Nat.le_of_ble_eq_true rfl, Nat.le_of_ble_eq_true rfl⟩ dX11_line_43 (fun w9 H locs hro hP9 hF hz9 hk9 hun => ?_)
            have hL := hL.keep hun trivial
            obtain ⟨w8, rfl, hw8, -⟩ := RO_some rfl hro
            obtain ⟨r0, rfl, -⟩ := avi_int rfl hw8
            have hre : r0 = (V (tN p0)).L (tN p1 * 6 + 1) := Value.int.inj (hP9 _ rfl)
            refine vx_ret (W.widen (k := 1) (n := 6) (Nat.zero_le _) (Nat.zero_le _) ?_)
            exact W.iret hx hb B.returns (fun t ht _ => ⟨⟨r0, (), rfl, (lnO_y hvy (fun z => c1 (hbe.trans z)) c2 c3).trans (congrArg some hre.symm), by rw [ht]; exact hF.1, by rw [ht]; exact hL⟩, hF.2.2.2.F ht⟩) hF.2.2.2.2.2 dX11_line_46 X.2.2.2.2.2.2.2.2
          · refine f_callE (pc := 43) (ci := 10) (As := [.int p1, .int 2]) (rs := []) X hF (E10_lineFactX2 (w := V (tN p0)) hU tv hp1) vX11_130 rfl (by rw [tv]; decide) ((congrArg TS0.1 tv).trans rfl) hVC2 rfl hl.1 rfl (Nat.le_of_ble_eq_true rfl) ⟨Nat.le_of_ble_eq_true rfl, Nat.le_of_ble_eq_true rfl⟩ ⟨Nat.le_of_ble_eq_true rfl, Nat.le_of_ble_eq_true rfl⟩ dX11_line_43 (fun w9 H locs hro hP9 hF hz9 hk9 hun => ?_)
            have hL := hL.keep hun trivial
            obtain ⟨w8, rfl, hw8, -⟩ := RO_some rfl hro
            obtain ⟨r0, rfl, -⟩ := avi_int rfl hw8
            have hre : r0 = (V (tN p0)).L (tN p1 * 6 + 2) := Value.int.inj (hP9 _ rfl)
            refine vx_ret (W.widen (k := 1) (n := 6) (Nat.zero_le _) (Nat.zero_le _) ?_)
            exact W.iret hx hb B.returns (fun t ht _ => ⟨⟨r0, (), rfl, (lnO_y hvy (fun z => c1 (hbe.trans z)) c2 c3).trans (congrArg some hre.symm), by rw [ht]; exact hF.1, by rw [ht]; exact hL⟩, hF.2.2.2.F ht⟩) hF.2.2.2.2.2 dX11_line_46 X.2.2.2.2.2.2.2.2
          · refine f_callE (pc := 43) (ci := 10) (As := [.int p1, .int 3]) (rs := []) X hF (E10_lineFactX3 (w := V (tN p0)) hU tv hp1) vX11_130 rfl (by rw [tv]; decide) ((congrArg TS0.1 tv).trans rfl) hVC2 rfl hl.1 rfl (Nat.le_of_ble_eq_true rfl) ⟨Nat.le_of_ble_eq_true rfl, Nat.le_of_ble_eq_true rfl⟩ ⟨Nat.le_of_ble_eq_true rfl, Nat.le_of_ble_eq_true rfl⟩ dX11_line_43 (fun w9 H locs hro hP9 hF hz9 hk9 hun => ?_)
            have hL := hL.keep hun trivial
            obtain ⟨w8, rfl, hw8, -⟩ := RO_some rfl hro
            obtain ⟨r0, rfl, -⟩ := avi_int rfl hw8
            have hre : r0 = (V (tN p0)).L (tN p1 * 6 + 3) := Value.int.inj (hP9 _ rfl)
            refine vx_ret (W.widen (k := 1) (n := 6) (Nat.zero_le _) (Nat.zero_le _) ?_)
            exact W.iret hx hb B.returns (fun t ht _ => ⟨⟨r0, (), rfl, (lnO_y hvy (fun z => c1 (hbe.trans z)) c2 c3).trans (congrArg some hre.symm), by rw [ht]; exact hF.1, by rw [ht]; exact hL⟩, hF.2.2.2.F ht⟩) hF.2.2.2.2.2 dX11_line_46 X.2.2.2.2.2.2.2.2
          · refine f_callE (pc := 43) (ci := 10) (As := [.int p1, .int 4]) (rs := []) X hF (E10_lineFactX4 (w := V (tN p0)) hU tv hp1) vX11_130 rfl (by rw [tv]; decide) ((congrArg TS0.1 tv).trans rfl) hVC2 rfl hl.1 rfl (Nat.le_of_ble_eq_true rfl) ⟨Nat.le_of_ble_eq_true rfl, Nat.le_of_ble_eq_true rfl⟩ ⟨Nat.le_of_ble_eq_true rfl, Nat.le_of_ble_eq_true rfl⟩ dX11_line_43 (fun w9 H locs hro hP9 hF hz9 hk9 hun => ?_)
            have hL := hL.keep hun trivial
            obtain ⟨w8, rfl, hw8, -⟩ := RO_some rfl hro
            obtain ⟨r0, rfl, -⟩ := avi_int rfl hw8
            have hre : r0 = (V (tN p0)).L (tN p1 * 6 + 4) := Value.int.inj (hP9 _ rfl)
            refine vx_ret (W.widen (k := 1) (n := 6) (Nat.zero_le _) (Nat.zero_le _) ?_)
            exact W.iret hx hb B.returns (fun t ht _ => ⟨⟨r0, (), rfl, (lnO_y hvy (fun z => c1 (hbe.trans z)) c2 c3).trans (congrArg some hre.symm), by rw [ht]; exact hF.1, by rw [ht]; exact hL⟩, hF.2.2.2.F ht⟩) hF.2.2.2.2.2 dX11_line_46 X.2.2.2.2.2.2.2.2
          · refine f_callE (pc := 43) (ci := 10) (As := [.int p1, .int 5]) (rs := []) X hF (E10_lineFactX5 (w := V (tN p0)) hU tv hp1) vX11_130 rfl (by rw [tv]; decide) ((congrArg TS0.1 tv).trans rfl) hVC2 rfl hl.1 rfl (Nat.le_of_ble_eq_true rfl) ⟨Nat.le_of_ble_eq_true rfl, Nat.le_of_ble_eq_true rfl⟩ ⟨Nat.le_of_ble_eq_true rfl, Nat.le_of_ble_eq_true rfl⟩ dX11_line_43 (fun w9 H locs hro hP9 hF hz9 hk9 hun => ?_)
            have hL := hL.keep hun trivial
            obtain ⟨w8, rfl, hw8, -⟩ := RO_some rfl hro
            obtain ⟨r0, rfl, -⟩ := avi_int rfl hw8
            have hre : r0 = (V (tN p0)).L (tN p1 * 6 + 5) := Value.int.inj (hP9 _ rfl)
            refine vx_ret (W.widen (k := 1) (n := 6) (Nat.zero_le _) (Nat.zero_le _) ?_)
            exact W.iret hx hb B.returns (fun t ht _ => ⟨⟨r0, (), rfl, (lnO_y hvy (fun z => c1 (hbe.trans z)) c2 c3).trans (congrArg some hre.symm), by rw [ht]; exact hF.1, by rw [ht]; exact hL⟩, hF.2.2.2.F ht⟩) hF.2.2.2.2.2 dX11_line_46 X.2.2.2.2.2.2.2.2
        · refine vx_throw0 (pc := 31) (own := RX11) (cls := XNN) (names := XUP) (ik := 127) (ic := 129) (A := (AA Γ s.heap.size)) hx hb hfl X.2.2.2.1 (by decide +kernel) (by decide +kernel) (X.2.2.2.2.1 _ m_1161) (X.2.2.2.2.1 _ m_17)
            (vx_hat (fun w hw => X.2.2.2.2.1 w (xat_bw w hw)) xat_ng (vx_c (va_Nw.use rfl hTh.2.2.1) (vx_c (va_Nw.use rfl hTh.2.2.2.1) (vx_c (va_Nw.use rfl hTh.2.2.2.2.1) (vx_c (va_Nw.use rfl hTh.2.2.2.2.2) vx_n))))) (fun w hw => List.all_eq_true.mp xat_ot w hw) hTh.1 hTh.2.1 hF.2.2.2 (hl.1.trans hml.symm) dX11_line_31 dX11_line_34 dX11_line_35 dX11_line_38 (fun x hx9 => (htab x hx9).elim)
            (by decide) (by decide) (Nat.le_of_ble_eq_true rfl) (Nat.le_of_ble_eq_true rfl) X.2.2.2.2.2.2.2.2 (fun t _ hz hq => ⟨(), lnO_6 c2 c3, ⟨rfl, HT_ext hF.1 fun q hq9 => hq q (hF.1.lt hq9), hL.same fun q hq9 => hq q (hF.1.lt hq9)⟩, Nat.le_trans hF.2.2.2.1 hz, fun q h1 h2 => (hq q (Nat.lt_of_lt_of_le h1 hF.2.2.2.1)).trans (hF.2.2.2.2.1 q h1 h2)⟩) hF.2.2.2.2.2 (Nat.le_of_ble_eq_true rfl) (Nat.le_of_ble_eq_true rfl)
  · refine lv_astoreN (lv' := [(4, .null), (0, .ref x0), (1, .int p0), (2, .int p1), (3, .int p2)]) (pc := 5) hx hb dX11_line_5 hl (by decide) rfl (fun ls hl => ?_)
    refine lv_aloadN (pc := 7) hx hb dX11_line_7 (lv_at hl 0 rfl) ?_
    refine lv_ifnullN (tgt := 31) (pc := 9) hx hb dX11_line_9 rfl ?_
    refine vx_throw0 (pc := 31) (own := RX11) (cls := XNN) (names := XUP) (ik := 127) (ic := 129) (A := (AA Γ s.heap.size)) hx hb hfl X.2.2.2.1 (by decide +kernel) (by decide +kernel) (X.2.2.2.2.1 _ m_1161) (X.2.2.2.2.1 _ m_17)
      (vx_hat (fun w hw => X.2.2.2.2.1 w (xat_bw w hw)) xat_ng (vx_c (va_Nw.use rfl hTh.2.2.1) (vx_c (va_Nw.use rfl hTh.2.2.2.1) (vx_c (va_Nw.use rfl hTh.2.2.2.2.1) (vx_c (va_Nw.use rfl hTh.2.2.2.2.2) vx_n))))) (fun w hw => List.all_eq_true.mp xat_ot w hw) hTh.1 hTh.2.1 hF.2.2.2 (hl.1.trans hml.symm) dX11_line_31 dX11_line_34 dX11_line_35 dX11_line_38 (fun x hx9 => (htab x hx9).elim)
      (by decide) (by decide) (Nat.le_of_ble_eq_true rfl) (Nat.le_of_ble_eq_true rfl) X.2.2.2.2.2.2.2.2 (fun t _ hz hq => ⟨(), lnO_v hvn, ⟨rfl, HT_ext hF.1 fun q hq9 => hq q (hF.1.lt hq9), hL.same fun q hq9 => hq q (hF.1.lt hq9)⟩, Nat.le_trans hF.2.2.2.1 hz, fun q h1 h2 => (hq q (Nat.lt_of_lt_of_le h1 hF.2.2.2.1)).trans (hF.2.2.2.2.1 q h1 h2)⟩) hF.2.2.2.2.2 (Nat.le_of_ble_eq_true rfl) (Nat.le_of_ble_eq_true rfl)

set_option maxHeartbeats 8000000 in
set_option maxRecDepth 100000 in
theorem GL_lineP (l : Launch) (hfl : l.stackTraces = false) (g : GG) (x0 m0 o0 : Nat) (p0 p1 p2 : Int32) (Γ : Nat → Nat) (Hs : Heap) (sz : Nat) (hU : UQ TS0 Γ) (ho : Γ o0 = 0) {n nv np : Nat} {fb : Nat → Int32} {V : Nat → VV} (hnv : nv ≤ 10) (hTs : HT g TS0 Γ Hs) (hCs : RC1 g x0 n fb nv np Hs) (hDs : RCV g x0 nv V Hs) : Met l yL_line (Cond.codeWith yL_line cL_line 6 (some .int) [(0, 12, 15, 13)] :: BW) (RM 8 1 6) (va_Pc [.ref x0, .int p0, .int p1, .int p2, .ref o0] (OPREU g x0 m0 o0 Γ Hs sz)) (fun _ st o t => ∃ r : Int32, o = .returned (some (.int r)) ∧ LBU g x0 m0 Γ Hs t ∧ ORW g o0 t.heap ∧ va_F (AO Γ o0 sz) st t ∧ LNR g o0 (lnO nv V p0 p1 p2) r t.heap) 1 6 (AO Γ o0 sz) := by
  refine va_MetW (cc := cL_line) (maxL := 6) (ret := (some .int)) (hh := [(0, 12, 15, 13)]) (by decide) rfl ?_
  intro p e s m args below meth c s₁ B hml hv
  obtain ⟨rfl, hsz, hT, hK, hTB, hL, hTh, f0, hO⟩ := hv
  subst hsz
  have hts := atoms_spec (ws := Cond.codeWith yL_line cL_line 6 (some .int) [(0, 12, 15, 13)] :: BW) B.pre
  have htab := vx_table (x := yL_line) B (hts _ List.mem_cons_self)
  have hl := lv_entry ([.ref x0, .int p0, .int p1, .int p2, .ref o0]) (n := 6) (Nat.le_of_ble_eq_true rfl)
  rw [lg_entry_eq]
  generalize (lg_sl ([.ref x0, .int p0, .int p1, .int p2, .ref o0]) ++ List.replicate (6 - (lg_sl ([.ref x0, .int p0, .int p1, .int p2, .ref o0])).length) Slot.unset).toArray = ls at hl ⊢
  have hl : lv_has ls 6 [(0, .ref x0), (1, .int p0), (2, .int p1), (3, .int p2), (4, .ref o0)] := hl
  have X : CTX p l m meth c cL_line 6 s _ RL g (AO Γ o0 s.heap.size) := ⟨B.exec, B.bytes, hml, findClass_of_methodNamed B.named, fun w h => hts w (List.mem_cons_of_mem _ h), hK, hTB, fun q h => Or.inl (Or.inr h), B.notSynchronized⟩
  have hF : FR g (AO Γ o0 s.heap.size) s Γ s.heap [] := ⟨hT, hU, fun q h => Or.inl (Or.inl h), va_S.rf⟩
  have hx := X.1
  have hb := X.2.1
  have hr := B.returns
  have hAA : ∀ q, AA Γ s.heap.size q → AO Γ o0 s.heap.size q := fun q h => Or.inl h
  refine lv_aload (pc := 0) hx hb dL_line_0 (lv_at hl 4 rfl) ?_
  refine lv_iconst (v := 0) (pc := 2) hx hb dL_line_2 (by decide) ?_
  refine lv_aload_n (pc := 3) hx hb dL_line_3 rfl (lv_at hl 0 rfl) ?_
  refine lv_iload_n (pc := 4) hx hb dL_line_4 rfl (lv_at hl 1 rfl) ?_
  refine lv_iload_n (pc := 5) hx hb dL_line_5 rfl (lv_at hl 2 rfl) ?_
  refine lv_iload_n (pc := 6) hx hb dL_line_6 rfl (lv_at hl 3 rfl) ?_
  refine vx_calli (vx_runV (As := [.int p0, .int p1, .int p2]) (rest := [.int 0, .ref o0]) ⟨X.1, X.2.1, X.2.2.1, X.2.2.2.1, X.2.2.2.2.1⟩ (GX11_lineP l hfl g x0 m0 p0 p1 p2 Γ Hs s.heap.size hU hnv hTs hCs hDs) (k_cwV X vL_7 ⟨Nat.le_of_ble_eq_true rfl, Nat.le_of_ble_eq_true rfl⟩) ⟨LPREU.blind, f_recv X hF (by rw [hL.1]; decide) ((congrArg TS0.1 hL.1).trans rfl) rfl, fun U hU2 hWm => ⟨rfl, by rw [hU2], f_pre X hF U hU2 hWm rfl, by rw [hU2]; exact hL, hTh.sub va_S.rf hAA hU2 hWm⟩⟩ rfl rfl hl.1 rfl (lv_room (Nat.le_of_ble_eq_true rfl)) dL_line_7 ⟨Nat.le_of_ble_eq_true rfl, Nat.le_of_ble_eq_true rfl⟩) hF.2.2.2 (fun q _ h => hAA q h) hAA (fun q _ h => hAA q h)
    (fun E ce q9 u t H1 locs1 ht hvm hno hE hz1 hk1 hS hce hcv hcl => ?_) (fun r u t H1 locs1 ht hvm hno hB hz1 hk1 hS => ?_)
  · obtain ⟨rfl, hB1, hB2⟩ := hE
    have hO1 : ORW g o0 H1 := ⟨f0, hO.kept (hk1 o0 hO.lt fun h => h.elim (fun h => h ho) (fun h => absurd hO.lt (Nat.not_lt.mpr h)))⟩
    refine vx_catch (own := RL) (name := XNN) X.2.2.2.1 [] ⟨0, 12, 15, 13⟩ [] (by rw [htab]; rfl) (fun z hz => absurd hz List.not_mem_nil) (by decide) (by decide) (X.2.2.2.2.1 _ m_1156) (va_Nw.use rfl hTh.2.2.1) hce hcv hcl ?_
    refine lv_astore (lv' := [(5, .ref q9), (0, .ref x0), (1, .int p0), (2, .int p1), (3, .int p2), (4, .ref o0)]) (pc := 15) hx hb dL_line_15 hl (by decide) rfl (fun ls hl => ?_)
    refine lv_iconst (v := 1) (pc := 17) hx hb dL_line_17 (by decide) ?_
    refine W.widen (k := 1) (n := 6) (Nat.le_of_ble_eq_true rfl) (Nat.le_of_ble_eq_true rfl) ?_
    exact W.iret hx hb hr (fun t2 ht2 _ => ⟨1, rfl, by rw [LBU, ht2, ← ht]; exact ⟨hB1, hB2⟩, by rw [ht2]; exact hO1, hS.F ht2, Or.inl ⟨hno, rfl⟩⟩) hS.2.2 dL_line_18 X.2.2.2.2.2.2.2.2
  · obtain ⟨hB1, hB2⟩ := hB
    rw [ht] at hB1 hB2
    have hO1 : va_at g.1 CLS (o0, .inl (g.2.1 2, (1, .inr (.inl f0)))) H1 := hO.kept (hk1 o0 hO.lt fun h => h.elim (fun h => h ho) (fun h => absurd hO.lt (Nat.not_lt.mpr h)))
    refine lv_i2l (pc := 10) hx hb dL_line_10 rfl ?_
    refine W.last hx hb hO1 ((X.2.2.2.2.2.1.1.2 2 _ rfl).1 1 (fun j => .long (f0 j))) (fun q => by cases q) (by show ¬ ((0 : Int32) < 0 ∨ (arrV _ 1 _).slots.size ≤ _); rw [arrV_size]; decide) rfl rfl dL_line_11 fun H2 e1 e2 e3 => ?_
    refine lv_goto (tgt := 19) (pc := 12) hx hb dL_line_12 rfl ?_
    refine lv_iconst (v := 0) (pc := 19) hx hb dL_line_19 (by decide) ?_
    refine W.widen (k := 1) (n := 6) (Nat.le_of_ble_eq_true rfl) (Nat.le_of_ble_eq_true rfl) ?_
    have hS2 := hS.put (k := (0 : Int32).toNatClampNeg) e2 e3 (Or.inr rfl)
    have hne : ∀ q : Nat, Γ q ≠ 0 → H2[q]? = H1[q]? := fun q hq => e3 q fun e => hq (by rw [e]; exact ho)
    have hrow : va_at g.1 CLS (o0, .inl (g.2.1 2, (1, .inr (.inl (vp_updL f0 (0 : Int32).toNatClampNeg r.toInt64))))) H2 := by
      show H2[o0]? = some (vp_cell _ _)
      rw [e1, vp_cell_l, vp_cell_l, arrV_store]
      congr 2
      funext y
      by_cases hy : y = (0 : Int32).toNatClampNeg
      · subst hy
        simp [updV, vp_updL]
      · simp only [updV, vp_updL, hy, if_false]
    exact W.iret hx hb hr (fun t2 ht2 _ => ⟨0, rfl, by rw [LBU, ht2]; exact ⟨HT_ext hB1 hne, hB2.same hne⟩, by rw [ht2]; exact ⟨_, hrow⟩, hS2.F ht2, Or.inr ⟨r, hno, rfl, _, by rw [ht2]; exact hrow, by simp [vp_updL]⟩⟩) hS2.2.2 dL_line_20 X.2.2.2.2.2.2.2.2

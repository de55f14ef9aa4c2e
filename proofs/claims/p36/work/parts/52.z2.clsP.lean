theorem RFA_fun {g : GG} {q k n : Nat} {f f' : Nat → Option Nat} {H : Heap} (h1 : RFA g q k n f H) (h2 : RFA g q k n f' H) {j a : Nat} (hj : j < n) (hf : f j = some a) : f' j = some a := by
  have e : arrV (g.2.1 k) n (fun j => va_rf (f j)) = arrV (g.2.1 k) n (fun j => va_rf (f' j)) := Option.some.inj ((show H[q]? = some _ from h1).symm.trans h2)
  have r1 := arrV_read (g.2.1 k) (fun j => va_rf (f j)) hj
  have r2 := arrV_read (g.2.1 k) (fun j => va_rf (f' j)) hj
  rw [e, r2] at r1
  have e2 : va_rf (f' j) = .ref a := (Option.some.inj r1).trans (by rw [hf]; rfl)
  cases hx : f' j with
  | none => rw [hx] at e2; cases e2
  | some b => rw [hx] at e2; cases e2; rfl
theorem rpl_no {n : Nat} {x : Int32} (h : x < 0 ∨ nI n ≤ x) : F_X12_isPlan n x = 0 := rv_no h
theorem rpl_yes {n i : Nat} (hn : n ≤ 12) (h : i < n) : ¬ F_X12_isPlan n (nI i) = 0 := by
  rw [show F_X12_isPlan n (nI i) = 1 from rv_ok (by omega) h]; decide
theorem cAns_no {np : Nat} {V : Nat → VV} {P : Nat → PP} {x ho ki on ot : Int32} (h : x < 0 ∨ nI np ≤ x) : cAns np V P x ho ki on ot = -1 := if_pos (rpl_no h)
theorem cNew_no {np : Nat} {V : Nat → VV} {P : Nat → PP} {x ho ki on ot : Int32} (h : x < 0 ∨ nI np ≤ x) : cNew np V P x ho ki on ot = P := if_pos (rpl_no h)
theorem cAns_ok {np i : Nat} {V : Nat → VV} {P : Nat → PP} {ho ki on ot : Int32} (hn : np ≤ 12) (h : i < np) : cAns np V P (nI i) ho ki on ot = if cFit (P i).c (V (P i).v).p ho ki on ot = 0 then -1 else nI (P i).c := by
  unfold cAns
  rw [if_neg (rpl_yes hn h), tN_nI (by omega)]
theorem cNew_ok {np i : Nat} {V : Nat → VV} {P : Nat → PP} {ho ki on ot : Int32} (hn : np ≤ 12) (h : i < np) : cNew np V P (nI i) ho ki on ot = if cFit (P i).c (V (P i).v).p ho ki on ot = 0 then P else pset P i (pOf (P i) ho ki on ot) := by
  unfold cNew
  rw [if_neg (rpl_yes hn h), tN_nI (by omega)]
theorem tags_kept {g : GG} {Γ : Nat → Nat} {H H1 : Heap} {ws : va_W} {tl : List Nat} {S : Nat → Prop} (hT : HT g TS0 Γ H) (tg : ws.map (fun w => Γ w.1) = tl) (h0 : ∀ t : Nat, S t → t ≠ 0) (hall : ∀ u ∈ tl, ¬ S u) (hk : ∀ q : Nat, q < H.size → ¬ va_A ws H.size q → H1[q]? = H[q]?) : ∀ q : Nat, S (Γ q) → H1[q]? = H[q]? := fun q hq => by
  have lt : q < H.size := hT.lt (h0 _ hq)
  refine hk q lt (nin_tag (t := Γ q) tg rfl ?_ lt)
  cases e : tl.any fun u => Nat.beq u (Γ q) with
  | false => rfl
  | true =>
    obtain ⟨u, hu, h1⟩ := List.any_eq_true.mp e
    have h3 := Nat.eq_of_beq_eq_true h1
    exact absurd (by rw [h3]; exact hq) (hall u hu)
theorem plan_kept {g : GG} {Γ : Nat → Nat} {H H1 : Heap} {ws : va_W} {tl : List Nat} (hT : HT g TS0 Γ H) (hk : ∀ q : Nat, q < H.size → ¬ va_A ws H.size q → H1[q]? = H[q]?) (tg : ws.map (fun w => Γ w.1) = tl) (hall : ∀ u ∈ tl, ¬ (u = 4 ∨ (31 ≤ u ∧ u ≤ 35))) : ∀ q : Nat, Γ q = 4 ∨ (31 ≤ Γ q ∧ Γ q ≤ 35) → H1[q]? = H[q]? := tags_kept (S := fun t => t = 4 ∨ (31 ≤ t ∧ t ≤ 35)) hT tg (fun t h => by omega) hall hk
/-- the reference and its plans are as they were -/
def OLDP (Γ : Nat → Nat) (H H1 : Heap) : Prop := ∀ q : Nat, Γ q = 60 ∨ (70 ≤ Γ q ∧ Γ q ≤ 75) → H1[q]? = H[q]?
theorem oldp_of {g : GG} {Γ : Nat → Nat} {H H1 : Heap} {ws : va_W} {tl : List Nat} (hT : HT g TS0 Γ H) (hk : ∀ q : Nat, q < H.size → ¬ va_A ws H.size q → H1[q]? = H[q]?) (tg : ws.map (fun w => Γ w.1) = tl) (hall : ∀ u ∈ tl, ¬ (u = 60 ∨ (70 ≤ u ∧ u ≤ 75))) : OLDP Γ H H1 := tags_kept (S := fun t => t = 60 ∨ (70 ≤ t ∧ t ≤ 75)) hT tg (fun t h => by omega) hall hk
section
variable {l : Launch} {g : GG} {Γ : Nat → Nat} {x0 m0 n nv np : Nat} {fb : Nat → Int32} {V : Nat → VV} {P : Nat → PP}

set_option maxHeartbeats 8000000 in
theorem E11_callP (hU : UQ TS0 Γ) (hnv : nv ≤ 10) (hnp : np ≤ 12) (hZ : PLW nv V np P) (tx : Γ x0 = 1) (p0 p1 p2 p3 p4 : Int32) : EX l g yX11_call cX11_call 8 (some .int) pX11_call_h0 Γ [.ref x0, .int p0, .int p1, .int p2, .int p3, .int p4] (fun H => RC1 g x0 n fb nv np H ∧ RCV g x0 nv V H ∧ RCP g x0 np P H) (fun _ v H1 => v = .int (cAns np V P p0 p1 p2 p3 p4) ∧ RCP g x0 np (cNew np V P p0 p1 p2 p3 p4) H1) :=
  EX_of (SX11_call_h0 l g) hU ⟨av_ref tx (by decide), avi_top _, avi_top _, avi_top _, avi_top _, avi_top _, trivial⟩ rfl fun H hT hR => by
    obtain ⟨hR, hRV, hRP⟩ := hR
    obtain ⟨va, pa, fA, fB, k1, k9, k2, k11, k13, k14, k15⟩ := hRP
    obtain ⟨t0, tq, va'', pa', sp, fA'', fB', ⟨e0, eq, ea, ep, es⟩, h0, h1, h2, h3, h4, h5, h6, h7, h8, h9, h10, h11, h12, h13⟩ := hR.tags hT tx
    cases FE_fun k1 h1
    cases FE_fun k2 h2
    obtain ⟨c3, c4, c5, c6, c7, c8, c9, cc, A0⟩ := DV1 hT tx h0 h1 h2 h3 h4 h5
    cases FE_fun k13 (FE_at (k := 13) A0 rfl (by decide) rfl)
    have lt : ∀ {q t : Nat}, Γ q = t → t ≠ 0 → q < H.size := fun h h0 => hT.lt (by rw [h]; exact h0)
    obtain ⟨va', fA', sp', g1, g9, g10, -⟩ := hRV
    cases FE_fun k1 g1
    rcases vin_cases (n := np) (by omega) p0 with hb | ⟨i, hi, rfl⟩
    · have tg : [Γ x0, Γ pa] = [1, 21] := by rw [tx, ep]
      refine ⟨1, _, _, by decide, K_X11_call0 l g x0 t0 va pa c3 c4 c5 c6 c7 c8 c9 sp nv np (nI (psum P np)) fB p0 p1 p2 p3 p4 hb, vaP_cons A0 (vaP_cons k11 vaP_nil), D_tags (tl := [1, 21]) tg (by decide) (by decide), fun x u H1 hp hP hz hk hT1 hun => ?_⟩
      obtain ⟨rfl, rfl⟩ := hp
      rw [cAns_no hb, cNew_no hb]
      exact ⟨rfl, RCP.same hT tx hnp k2 k11 k14 k15 (plan_kept hT hk (tl := [1, 21]) tg (by decide)) (fun _ _ => rfl) (FE_at (k := 1) (hP 0 _ rfl) rfl (by decide) rfl) (k9.kept (hk _ (lt ea (by decide)) (nin_tag (tl := [1, 21]) tg ea rfl (lt ea (by decide))))) (FE_at (k := 2) (hP 0 _ rfl) rfl (by decide) rfl) (hP 1 _ rfl) (FE_at (k := 13) (hP 0 _ rfl) rfl (by decide) rfl)⟩
    · obtain ⟨q, v, hB, hA, hPC⟩ := k14 i hi
      obtain ⟨hv, hw1, hw2, hw3⟩ := hZ i hi
      obtain ⟨okV, v', hv', hVC⟩ := g10 (P i).v hv
      cases (RFA_fun k9 g9 (by omega) hA).symm.trans hv'
      obtain ⟨gl, v15, hP0⟩ := hVC
      have tq4 := RCP.tag hT tx k2 k11 (by omega) hB
      obtain ⟨s0, s1, s2, s3, s4, s5⟩ := hPC.tags hT tq4
      have tg : [Γ x0, Γ pa, Γ q, Γ (q + 1), Γ (q + 2), Γ (q + 3), Γ (q + 4), Γ (q + 5), Γ v] = [1, 21, 4, 31, 32, 33, 34, 35, 3] := by rw [tx, ep, tq4, s1, s2, s3, s4, s5, s0]
      refine ⟨2, _, _, by decide, K_X11_call1 l g x0 t0 va pa c3 c4 c5 c6 c7 c8 c9 sp nv np (nI (psum P np)) fB i q (q + 1) (q + 2) (q + 3) (q + 4) (q + 5) (q + 6) (q + 7) (P i).c v (v + 1) (v + 2) (v + 3) (v + 4) (v + 5) (v + 6) (v + 7) (v + 8) (v + 9) (v + 10) (v + 11) v15 (V (P i).v).p (nI (V (P i).v).lc) (V (P i).v).de gl (P i).h (P i).k (P i).a (P i).b (P i).o p1 p2 p3 p4 hi hnp hB hw1 hw2, vaP_cons A0 (vaP_cons k11 (vaP_cons (hPC 0 _ rfl) (vaP_cons (hPC 1 _ rfl) (vaP_cons (hPC 2 _ rfl) (vaP_cons (hPC 3 _ rfl) (vaP_cons (hPC 4 _ rfl) (vaP_cons (hPC 5 _ rfl) (vaP_cons (hP0 0 _ rfl) vaP_nil)))))))), D_tags (tl := [1, 21, 4, 31, 32, 33, 34, 35, 3]) tg (by decide) (by decide), fun x u H1 hp hP hz hk hT1 hun => ?_⟩
      obtain ⟨rfl, rfl⟩ := hp
      rw [call1_fit] at hP ⊢
      rw [cAns_ok hnp hi, cNew_ok hnp hi]
      by_cases hf : cFit (P i).c (V (P i).v).p p1 p2 p3 p4 = 0
      · rw [if_pos hf] at hP ⊢
        rw [if_pos hf, if_pos hf]
        refine ⟨rfl, ?_⟩
        rw [← pset_id (P := P) (i := i)]
        refine RCP.upd (w := P i) hnp hT tx k2 k11 k14 k15 hi hB hA (ws := _) (winp_cons (winp_t tx (by decide)) (winp_cons (winp_t ep (by decide)) (winp_cons (Or.inr ⟨0, by decide, rfl⟩) (winp_cons (Or.inr ⟨1, by decide, rfl⟩) (winp_cons (Or.inr ⟨2, by decide, rfl⟩) (winp_cons (Or.inr ⟨3, by decide, rfl⟩) (winp_cons (Or.inr ⟨4, by decide, rfl⟩) (winp_cons (Or.inr ⟨5, by decide, rfl⟩) (winp_cons (winp_t s0 (by decide)) winp_nil))))))))) hk (FE_at (k := 1) (hP 0 _ rfl) rfl (by decide) rfl) (k9.kept (hk _ (lt ea (by decide)) (nin_tag (tl := [1, 21, 4, 31, 32, 33, 34, 35, 3]) tg ea rfl (lt ea (by decide))))) (FE_at (k := 2) (hP 0 _ rfl) rfl (by decide) rfl) (hP 1 _ rfl) ?_ (vaP_cons (hP 2 _ rfl) (vaP_cons (hP 3 _ rfl) (vaP_cons (hP 4 _ rfl) (vaP_cons (hP 5 _ rfl) (vaP_cons (hP 6 _ rfl) (vaP_cons (hP 7 _ rfl) vaP_nil))))))
        rw [pset_id]
        exact FE_at (k := 13) (hP 0 _ rfl) rfl (by decide) rfl
      · rw [if_neg hf] at hP ⊢
        rw [if_neg hf, if_neg hf]
        refine ⟨rfl, ?_⟩
        refine RCP.upd (w := pOf (P i) p1 p2 p3 p4) hnp hT tx k2 k11 k14 k15 hi hB hA (ws := _) (winp_cons (winp_t tx (by decide)) (winp_cons (winp_t ep (by decide)) (winp_cons (Or.inr ⟨0, by decide, rfl⟩) (winp_cons (Or.inr ⟨1, by decide, rfl⟩) (winp_cons (Or.inr ⟨2, by decide, rfl⟩) (winp_cons (Or.inr ⟨3, by decide, rfl⟩) (winp_cons (Or.inr ⟨4, by decide, rfl⟩) (winp_cons (Or.inr ⟨5, by decide, rfl⟩) (winp_cons (winp_t s0 (by decide)) winp_nil))))))))) hk (FE_at (k := 1) (hP 0 _ rfl) rfl (by decide) rfl) (k9.kept (hk _ (lt ea (by decide)) (nin_tag (tl := [1, 21, 4, 31, 32, 33, 34, 35, 3]) tg ea rfl (lt ea (by decide))))) (FE_at (k := 2) (hP 0 _ rfl) rfl (by decide) rfl) (hP 1 _ rfl) ?_ (vaP_cons (hP 2 _ rfl) (vaP_cons (hP 3 _ rfl) (vaP_cons (hP 4 _ rfl) (vaP_cons (hP 5 _ rfl) (vaP_cons (hP 6 _ rfl) (vaP_cons (hP 7 _ rfl) vaP_nil))))))
        rw [psum_set rfl np, if_pos hi, show nI (psum P np + 1) = nI (psum P np) + 1 from (nI_1 _).symm]
        exact FE_at (k := 13) (hP 0 _ rfl) rfl (by decide) rfl

/-- the same, with what is told of where new cells lie -/
theorem EG_ofD {l : Launch} {g : GG} {y : MethodName} {c : ByteArray} {n d mc ms x0 m0 : Nat} {Γ : Nat → Nat} {As : List Value} {Pre : Heap → Prop} {Post : Heap → Value → Heap → Prop} (hM : GM l g y c n d mc ms x0 m0 As) (hU : UQ TS0 Γ)
    (h : ∀ H : Heap, HT g TS0 Γ H → LF g x0 m0 Γ H → Pre H → ∃ (mc2 ms2 : Nat) (ws : va_W) (post : Int32 → va_W → Prop), Met l y (WW y c n (some .int)) (RM d mc ms) (va_Pc As (PRE g ws H.size)) (va_Qi post (BO g (va_A ws H.size)) (va_A ws H.size)) mc2 ms2 (va_A ws H.size) ∧ va_P g.1 CLS ws H ∧ va_D (fun q => Γ q ≠ 0) ws ∧ ∀ (x : Int32) (u : va_W) (H1 : Heap), post x u → va_P g.1 CLS u H1 → va_D (va_A ws H.size) u → H.size ≤ H1.size → (∀ q : Nat, q < H.size → ¬ va_A ws H.size q → H1[q]? = H[q]?) → Post H (.int x) H1) : EG l g y c n d mc ms x0 m0 Γ As Pre Post := by
  intro sz p e a1 a2 a3 s m args below b1 b2 b3 b4
  obtain ⟨ea, ⟨hsz, hS, hL⟩, hPre⟩ := b3
  obtain ⟨mc2, ms2, ws, post, hX, hP, hD, hQ⟩ := h s.heap hS.1 hL hPre
  have hA : ∀ q, va_A ws s.heap.size q → AA Γ s.heap.size q := fun q hq => by
    rcases hq with ⟨k, e, hq⟩ | hq
    · exact Or.inl (hD.2 k _ hq)
    · exact Or.inr hq
  have h1 := hM Γ sz hU p e a1 a2 a3 s m args below b1 b2 ⟨ea, hsz, hS, hL⟩ b4
  have h2 := hX p e a1 a2 a3 s m args below b1 b2 ⟨ea, rfl, hP, hS.2.1, hD.weaken (fun _ _ _ _ => trivial), hS.2.2.1.narrow hA⟩ b4
  obtain ⟨k, o, c1, c2, c3, c4, L, c5, c6⟩ := h1
  obtain ⟨k', o', d1, d2, d3, d4, -⟩ := h2
  have hk : k = k' := by
    rcases Nat.lt_trichotomy k k' with h | h | h
    · exact absurd (d1 k h) c3.not_within
    · exact h
    · exact absurd (c1 k' h) d3.not_within
  subst hk
  have ho := c3.outcome_unique d3
  subst ho
  refine ⟨k, o, c1, c2, c3, ⟨c4, fun v hv => ?_⟩, L, c5, c6⟩
  obtain ⟨⟨x, u, ho, hp, hB⟩, hF⟩ := d4
  rw [ho] at hv
  cases hv
  exact hQ x u _ hp hB.1 hB.2 hF.1 hF.2

set_option maxHeartbeats 8000000 in
theorem E11_planP (hU : UQ TS0 Γ) (hnv : nv ≤ 10) (hnp : np ≤ 12) (hZ : PLW nv V np P) (tx : Γ x0 = 1) (p0 : Int32) : EG l g yX11_plan cX11_plan 3 3 8 289 x0 m0 Γ [.ref x0, .int p0] (fun H => RC1 g x0 n fb nv np H ∧ RCV g x0 nv V H ∧ RCP g x0 np P H) (fun H _ H1 => RCP g x0 (pNum nv np p0) (pNew nv np P p0) H1 ∧ OLDP Γ H H1) :=
  EG_ofD (GX11_plan l g x0 m0 p0) hU fun H hT hLF hR => by
    obtain ⟨hR, hRV, hRP⟩ := hR
    obtain ⟨va, pa, fA, fB, k1, k9, k2, k11, k13, k14, k15⟩ := hRP
    obtain ⟨t0, tq, va'', pa', sp, fA'', fB', ⟨e0, eq, ea, ep, es⟩, h0, h1, h2, h3, h4, h5, h6, h7, h8, h9, h10, h11, h12, h13⟩ := hR.tags hT tx
    cases FE_fun k1 h1
    cases FE_fun k2 h2
    obtain ⟨c3, c4, c5, c6, c7, c8, c9, cc, A0⟩ := DV1 hT tx h0 h1 h2 h3 h4 h5
    cases FE_fun k13 (FE_at (k := 13) A0 rfl (by decide) rfl)
    have lt : ∀ {q t : Nat}, Γ q = t → t ≠ 0 → q < H.size := fun h h0 => hT.lt (by rw [h]; exact h0)
    obtain ⟨va', fA', sp', g1, g9, g10, -⟩ := hRV
    cases FE_fun k1 g1
    rcases vin_cases (n := nv) (by omega) p0 with hb | ⟨i, hi, rfl⟩
    · have tg : [Γ x0, Γ va] = [1, 20] := by rw [tx, ea]
      refine ⟨0, 0, _, _, MetI.grow (K_X11_plan0 l g x0 t0 va pa c3 c4 c5 c6 c7 c8 c9 sp nv np (nI (psum P np)) fA p0 hb) (by decide) (Nat.zero_le _) (Nat.zero_le _) _, vaP_cons A0 (vaP_cons k9 vaP_nil), D_tags (tl := [1, 20]) tg (by decide) (by decide), fun x u H1 hp hP hD hz hk => ?_⟩
      obtain ⟨hx, rfl⟩ := hp
      have hno : ¬ (¬ F_X12_isValley nv p0 = 0 ∧ np < 12) := fun q => q.1 (rv_no hb)
      rw [show pNum nv np p0 = np from if_neg hno, show pNew nv np P p0 = P from if_neg hno]
      exact ⟨RCP.same hT tx hnp k2 k11 k14 k15 (plan_kept hT hk (tl := [1, 20]) tg (by decide)) (fun _ _ => rfl) (FE_at (k := 1) (hP 0 _ rfl) rfl (by decide) rfl) (hP 1 _ rfl) (FE_at (k := 2) (hP 0 _ rfl) rfl (by decide) rfl) (k11.kept (hk _ (lt ep (by decide)) (nin_tag (tl := [1, 20]) tg ep rfl (lt ep (by decide))))) (FE_at (k := 13) (hP 0 _ rfl) rfl (by decide) rfl), oldp_of hT hk (tl := [1, 20]) tg (by decide)⟩
    · by_cases h12' : np = 12
      · obtain ⟨-, v, hv, -⟩ := g10 i hi
        have hv2 := RFA_fun g9 k9 (by omega) hv
        have tg : [Γ x0, Γ va] = [1, 20] := by rw [tx, ea]
        refine ⟨0, 0, _, _, MetI.grow (C_X11_plan0b l g x0 t0 va pa c3 c4 c5 c6 c7 c8 c9 sp nv np (nI (psum P np)) fA i v hi hnv hv2 h12') (by decide) (Nat.zero_le _) (Nat.zero_le _) _, vaP_cons A0 (vaP_cons k9 vaP_nil), D_tags (tl := [1, 20]) tg (by decide) (by decide), fun x u H1 hp hP hD hz hk => ?_⟩
        obtain ⟨hx, rfl⟩ := hp
        have hno : ¬ (¬ F_X12_isValley nv (nI i) = 0 ∧ np < 12) := fun q => by omega
        rw [show pNum nv np (nI i) = np from if_neg hno, show pNew nv np P (nI i) = P from if_neg hno]
        exact ⟨RCP.same hT tx hnp k2 k11 k14 k15 (plan_kept hT hk (tl := [1, 20]) tg (by decide)) (fun _ _ => rfl) (FE_at (k := 1) (hP 0 _ rfl) rfl (by decide) rfl) (hP 1 _ rfl) (FE_at (k := 2) (hP 0 _ rfl) rfl (by decide) rfl) (k11.kept (hk _ (lt ep (by decide)) (nin_tag (tl := [1, 20]) tg ep rfl (lt ep (by decide))))) (FE_at (k := 13) (hP 0 _ rfl) rfl (by decide) rfl), oldp_of hT hk (tl := [1, 20]) tg (by decide)⟩
      · obtain ⟨-, v, hv, -⟩ := g10 i hi
        have hv2 := RFA_fun g9 k9 (by omega) hv
        have tg : [Γ x0, Γ va, Γ pa] = [1, 20, 21] := by rw [tx, ea, ep]
        refine ⟨8, 289, _, _, MetI.grow (C_X11_plan1 l g x0 t0 va pa c3 c4 c5 c6 c7 c8 c9 sp nv np (nI (psum P np)) fA fB i v hi hnv hv2 (by omega)) (by decide) (Nat.le_refl _) (Nat.le_refl _) _, vaP_cons A0 (vaP_cons k9 (vaP_cons k11 vaP_nil)), D_tags (tl := [1, 20, 21]) tg (by decide) (by decide), fun x u H1 hp hP hD hz hk => ?_⟩
        obtain ⟨z, rfl, rfl⟩ := hp
        have hyes : ¬ F_X12_isValley nv (nI i) = 0 ∧ np < 12 := ⟨rv_yes hnv hi, by omega⟩
        rw [show pNum nv np (nI i) = np + 1 from if_pos hyes, show pNew nv np P (nI i) = pset P np (pZero (tN (nI i))) from if_pos hyes, tN_nI (by omega)]
        have hz3 : H.size ≤ z := by
          rcases hD.2 3 _ rfl with ⟨k, e, hq⟩ | hq
          · have hlen : k < 3 := by
              rcases Nat.lt_or_ge k 3 with h | h
              · exact h
              · exfalso
                match k, h, hq with
                | k + 3, _, hq => cases hq
            match k, hlen, hq with
            | 0, _, hq => cases hq; exact absurd (hD.1 0 3 _ _ rfl rfl rfl) (by decide)
            | 1, _, hq => cases hq; exact absurd (hD.1 1 3 _ _ rfl rfl rfl) (by decide)
            | 2, _, hq => cases hq; exact absurd (hD.1 2 3 _ _ rfl rfl rfl) (by decide)
          · exact hq
        have kp := plan_kept hT hk (tl := [1, 20, 21]) tg (by decide)
        refine ⟨?_, oldp_of hT hk (tl := [1, 20, 21]) tg (by decide)⟩
        refine ⟨va, pa, fA, va_up fB np (some z), FE_at (k := 1) (hP 0 _ rfl) rfl (by decide) rfl, hP 1 _ rfl, FE_at (k := 2) (hP 0 _ rfl) rfl (by decide) rfl, hP 2 _ rfl, ?_, fun j hj => ?_, fun j k a hj hk2 hA hB => ?_⟩
        · show FE g x0 11 13 H1 (.int (nI (psum (pset P np (pZero i)) np + (pset P np (pZero i) np).c)))
          rw [psum_add np (Nat.le_refl _), pset_eq]
          exact FE_at (k := 13) (hP 0 _ rfl) rfl (by decide) rfl
        · by_cases e : j = np
          · subst e
            rw [pset_eq]
            exact ⟨z, v, va_up_self _ _ _, hv2, vaP_cons (hP 3 _ rfl) (vaP_cons (hP 4 _ rfl) (vaP_cons (hP 5 _ rfl) (vaP_cons (hP 6 _ rfl) (vaP_cons (hP 7 _ rfl) (vaP_cons (hP 8 _ rfl) vaP_nil)))))⟩
          · rw [pset_ne e, va_up_ne _ _ e]
            obtain ⟨b, u, hB2, hA2, hPC⟩ := k14 j (by omega)
            exact ⟨b, u, hB2, hA2, hPC.kept fun m hm => kp _ (blkp_tag (hPC.blk hT (RCP.tag hT tx k2 k11 (by omega) hB2)) hm)⟩
        · have old : ∀ {j : Nat}, j < np → fB j = some z → False := fun {j} hj hB => by
            have h4 := RCP.tag hT tx k2 k11 (by omega) hB
            have := hT.lt (x := z) (by rw [h4]; decide)
            omega
          by_cases e : j = np
          · by_cases e2 : k = np
            · omega
            · subst e
              rw [va_up_self] at hA
              rw [va_up_ne _ _ e2] at hB
              cases hA
              exact (old (by omega) hB).elim
          · by_cases e2 : k = np
            · subst e2
              rw [va_up_self] at hB
              rw [va_up_ne _ _ e] at hA
              cases hB
              exact (old (by omega) hA).elim
            · rw [va_up_ne _ _ e] at hA
              rw [va_up_ne _ _ e2] at hB
              exact k15 j k a (by omega) (by omega) hA hB

set_option maxHeartbeats 8000000 in
theorem E11_valleyP (hn : n ≤ 400) (hU : UQ TS0 Γ) (hnv : nv ≤ 10) (hnp : np ≤ 12) (hZ : PLW nv V np P) (tx : Γ x0 = 1) : EG l g yX11_valley cX11_valley 1 9 13 380 x0 m0 Γ [.ref x0] (fun H => RC1 g x0 n fb nv np H ∧ RCV g x0 nv V H ∧ RCP g x0 np P H) (fun H v H1 => RCP g x0 np P H1 ∧ OLDP Γ H H1) :=
  EG_of (GX11_valley l g x0 m0) hU fun H hT hLF hR => by
    obtain ⟨hR, -, hRP⟩ := hR
    obtain ⟨t0, tq, va, pa, sp, fA, fB, ⟨e0, eq, ea, ep, es⟩, h0, h1, h2, h3, h4, h5, h6, h7, h8, h9, h10, h11, h12, h13⟩ := hR.tags hT tx
    obtain ⟨c3, c4, c5, c6, c7, c8, c9, cc, A0⟩ := DV1 hT tx h0 h1 h2 h3 h4 h5
    obtain ⟨pl, A1⟩ := DVt hT e0 h6 h7
    obtain ⟨pe, lc, de, gl, v15, A3⟩ := spare_open hT es h13
    obtain ⟨s1, s2, s3, s4, s5, s6, s7, s8, s9, s10, s11⟩ := spare_tags hT es h13
    obtain ⟨g1, B1⟩ := ints_of hT s1 (by decide) rfl
    obtain ⟨g2, B2⟩ := ints_of hT s2 (by decide) rfl
    obtain ⟨g3, B3⟩ := ints_of hT s3 (by decide) rfl
    obtain ⟨L, B7⟩ := ints_of hT s7 (by decide) rfl
    obtain ⟨va', pa', fA', fB', k1, g9, k2, k11, k13, k14, k15⟩ := hRP
    cases FE_fun h1 k1
    cases FE_fun h2 k2
    cases FE_fun k13 (FE_at (k := 13) A0 rfl (by decide) rfl)
    have lt : ∀ {q t : Nat}, Γ q = t → t ≠ 0 → q < H.size := fun h h0 => hT.lt (by rw [h]; exact h0)
    by_cases h10' : nv = 10
    · have tg : ([(x0, .inr (11, [.ref t0, .ref va, .ref pa, .ref c3, .ref c4, .ref c5, .ref c6, .ref c7, .ref c8, .ref c9, .ref sp, .int (nI nv), .int (nI np), .int (nI (psum P np))]))] : va_W).map (fun w => Γ w.1) = [1] := by show [Γ x0] = _; rw [tx]
      refine ⟨0, 0, _, _, MetI.grow (C_X11_valleyF l g x0 t0 va pa c3 c4 c5 c6 c7 c8 c9 nv np (nI (psum P np)) sp h10') (Nat.zero_le _) (Nat.zero_le _) (Nat.zero_le _) _, vaP_cons A0 vaP_nil, D_tags tg (by decide) (by decide), fun x u H1 hp hP hz hk => ?_⟩
      obtain ⟨rfl, rfl⟩ := hp
      have Y0 := hP 0 _ rfl
      have kp : ∀ {q t : Nat}, Γ q = t → t ≠ 0 → ([1].any fun u => Nat.beq u t) = false → H1[q]? = H[q]? := fun {q t} h h0 h1 => hk q (lt h h0) (nin_tag tg h h1 (lt h h0))
      exact ⟨RCP.same (P := P) hT tx hnp k2 k11 k14 k15 (plan_kept hT hk tg (by decide)) (fun _ _ => rfl) (FE_at (k := 1) Y0 rfl (by decide) rfl) (g9.kept (kp ea (by decide) rfl)) (FE_at (k := 2) Y0 rfl (by decide) rfl) (k11.kept (kp ep (by decide) rfl)) (FE_at (k := 13) Y0 rfl (by decide) rfl), oldp_of hT hk tg (by decide)⟩
    · have hnv9 : nv < 10 := by omega
      by_cases hF : (rdx n (ub fb) L).1 = -1
      · have hL : lspF L := by
          obtain ⟨L2, e1, e2⟩ := (hT.2.1 rfl).1.1 (sp + 7) (Or.inr s7)
          exact fun j hj => by rw [(AT_fun B7 e1 hj).2]; exact e2 j hj
        obtain ⟨p, p1, p2, p3, -, y2, -, -, -, -, -, y8⟩ := (rdx_ok (f := ub fb) hn hL).2.resolve_left fun h => h.2.1 hF
        obtain ⟨k6, B4⟩ := ints_of hT s4 (by decide) rfl
        obtain ⟨k7, B5⟩ := ints_of hT s5 (by decide) rfl
        obtain ⟨k8, B6⟩ := ints_of hT s6 (by decide) rfl
        obtain ⟨K, B8⟩ := ints_of hT s8 (by decide) rfl
        obtain ⟨cdf, B9⟩ := ints_of hT s9 (by decide) rfl
        obtain ⟨k13, B11⟩ := ints_of hT s11 (by decide) rfl
        refine ⟨13, 380, _, _, MetI.grow (C_X11_valley1 l g x0 t0 va pa c3 c4 c5 c6 c7 c8 c9 nv np (nI (psum P np)) tq (ub fb) n pl sp (sp + 1) (sp + 2) (sp + 3) (sp + 4) (sp + 5) (sp + 6) (sp + 7) (sp + 8) (sp + 9) (sp + 10) (sp + 11) v15 pe lc de gl g1 g2 g3 L fA' k6 k7 k8 K k13 p hn hnv9 hF y2 p2 y8) (by decide) (Nat.le_refl _) (Nat.le_refl _) _, vaP_cons A0 (vaP_cons A1 (vaP_cons h8 (vaP_cons g9 (vaP_cons A3 (vaP_cons B1 (vaP_cons B2 (vaP_cons B3 (vaP_cons B7 (vaP_cons B4 (vaP_cons B5 (vaP_cons B6 (vaP_cons B8 (vaP_cons B11 vaP_nil))))))))))))), D_keys (K := (fun q => if q = sp + 4 then 1001 else if q = sp + 5 then 1002 else if q = sp + 6 then 1003 else Γ q)) (tl := [1, 2, 22, 20, 13, 110, 111, 112, 113, 1001, 1002, 1003, 26, 29]) (by show [(fun q => if q = sp + 4 then 1001 else if q = sp + 5 then 1002 else if q = sp + 6 then 1003 else Γ q) x0, (fun q => if q = sp + 4 then 1001 else if q = sp + 5 then 1002 else if q = sp + 6 then 1003 else Γ q) t0, (fun q => if q = sp + 4 then 1001 else if q = sp + 5 then 1002 else if q = sp + 6 then 1003 else Γ q) tq, (fun q => if q = sp + 4 then 1001 else if q = sp + 5 then 1002 else if q = sp + 6 then 1003 else Γ q) va, (fun q => if q = sp + 4 then 1001 else if q = sp + 5 then 1002 else if q = sp + 6 then 1003 else Γ q) sp, (fun q => if q = sp + 4 then 1001 else if q = sp + 5 then 1002 else if q = sp + 6 then 1003 else Γ q) (sp + 1), (fun q => if q = sp + 4 then 1001 else if q = sp + 5 then 1002 else if q = sp + 6 then 1003 else Γ q) (sp + 2), (fun q => if q = sp + 4 then 1001 else if q = sp + 5 then 1002 else if q = sp + 6 then 1003 else Γ q) (sp + 3), (fun q => if q = sp + 4 then 1001 else if q = sp + 5 then 1002 else if q = sp + 6 then 1003 else Γ q) (sp + 7), (fun q => if q = sp + 4 then 1001 else if q = sp + 5 then 1002 else if q = sp + 6 then 1003 else Γ q) (sp + 4), (fun q => if q = sp + 4 then 1001 else if q = sp + 5 then 1002 else if q = sp + 6 then 1003 else Γ q) (sp + 5), (fun q => if q = sp + 4 then 1001 else if q = sp + 5 then 1002 else if q = sp + 6 then 1003 else Γ q) (sp + 6), (fun q => if q = sp + 4 then 1001 else if q = sp + 5 then 1002 else if q = sp + 6 then 1003 else Γ q) (sp + 8), (fun q => if q = sp + 4 then 1001 else if q = sp + 5 then 1002 else if q = sp + 6 then 1003 else Γ q) (sp + 11)] = _; rw [show (fun q => if q = sp + 4 then 1001 else if q = sp + 5 then 1002 else if q = sp + 6 then 1003 else Γ q) x0 = 1 from key24 (sp := sp) tx s4 s5 s6 (by decide), show (fun q => if q = sp + 4 then 1001 else if q = sp + 5 then 1002 else if q = sp + 6 then 1003 else Γ q) t0 = 2 from key24 (sp := sp) e0 s4 s5 s6 (by decide), show (fun q => if q = sp + 4 then 1001 else if q = sp + 5 then 1002 else if q = sp + 6 then 1003 else Γ q) tq = 22 from key24 (sp := sp) eq s4 s5 s6 (by decide), show (fun q => if q = sp + 4 then 1001 else if q = sp + 5 then 1002 else if q = sp + 6 then 1003 else Γ q) va = 20 from key24 (sp := sp) ea s4 s5 s6 (by decide), show (fun q => if q = sp + 4 then 1001 else if q = sp + 5 then 1002 else if q = sp + 6 then 1003 else Γ q) sp = 13 from key24 (sp := sp) es s4 s5 s6 (by decide), show (fun q => if q = sp + 4 then 1001 else if q = sp + 5 then 1002 else if q = sp + 6 then 1003 else Γ q) (sp + 1) = 110 from key24 (sp := sp) s1 s4 s5 s6 (by decide), show (fun q => if q = sp + 4 then 1001 else if q = sp + 5 then 1002 else if q = sp + 6 then 1003 else Γ q) (sp + 2) = 111 from key24 (sp := sp) s2 s4 s5 s6 (by decide), show (fun q => if q = sp + 4 then 1001 else if q = sp + 5 then 1002 else if q = sp + 6 then 1003 else Γ q) (sp + 3) = 112 from key24 (sp := sp) s3 s4 s5 s6 (by decide), show (fun q => if q = sp + 4 then 1001 else if q = sp + 5 then 1002 else if q = sp + 6 then 1003 else Γ q) (sp + 7) = 113 from key24 (sp := sp) s7 s4 s5 s6 (by decide), show (fun q => if q = sp + 4 then 1001 else if q = sp + 5 then 1002 else if q = sp + 6 then 1003 else Γ q) (sp + 4) = 1001 from if_pos rfl, show (fun q => if q = sp + 4 then 1001 else if q = sp + 5 then 1002 else if q = sp + 6 then 1003 else Γ q) (sp + 5) = 1002 from (if_neg (by omega)).trans (if_pos rfl), show (fun q => if q = sp + 4 then 1001 else if q = sp + 5 then 1002 else if q = sp + 6 then 1003 else Γ q) (sp + 6) = 1003 from (if_neg (by omega)).trans ((if_neg (by omega)).trans (if_pos rfl)), show (fun q => if q = sp + 4 then 1001 else if q = sp + 5 then 1002 else if q = sp + 6 then 1003 else Γ q) (sp + 8) = 26 from key24 (sp := sp) s8 s4 s5 s6 (by decide), show (fun q => if q = sp + 4 then 1001 else if q = sp + 5 then 1002 else if q = sp + 6 then 1003 else Γ q) (sp + 11) = 29 from key24 (sp := sp) s11 s4 s5 s6 (by decide)]) (by decide) ?_, fun x u H1 hp hP hz hk => ?_⟩
        · intro k w hw
          match k, hw with
          | 0, hw => cases hw; show Γ x0 ≠ 0; rw [tx]; decide
          | 1, hw => cases hw; show Γ t0 ≠ 0; rw [e0]; decide
          | 2, hw => cases hw; show Γ tq ≠ 0; rw [eq]; decide
          | 3, hw => cases hw; show Γ va ≠ 0; rw [ea]; decide
          | 4, hw => cases hw; show Γ sp ≠ 0; rw [es]; decide
          | 5, hw => cases hw; show Γ (sp + 1) ≠ 0; rw [s1]; decide
          | 6, hw => cases hw; show Γ (sp + 2) ≠ 0; rw [s2]; decide
          | 7, hw => cases hw; show Γ (sp + 3) ≠ 0; rw [s3]; decide
          | 8, hw => cases hw; show Γ (sp + 7) ≠ 0; rw [s7]; decide
          | 9, hw => cases hw; show Γ (sp + 4) ≠ 0; rw [s4]; decide
          | 10, hw => cases hw; show Γ (sp + 5) ≠ 0; rw [s5]; decide
          | 11, hw => cases hw; show Γ (sp + 6) ≠ 0; rw [s6]; decide
          | 12, hw => cases hw; show Γ (sp + 8) ≠ 0; rw [s8]; decide
          | 13, hw => cases hw; show Γ (sp + 11) ≠ 0; rw [s11]; decide
          | k + 14, hw => cases hw
        · obtain ⟨z, hx, rfl⟩ := hp
          have Y0 := hP 0 _ rfl
          have tg : ([(x0, .inr (11, [.ref t0, .ref va, .ref pa, .ref c3, .ref c4, .ref c5, .ref c6, .ref c7, .ref c8, .ref c9, .ref sp, .int (nI nv), .int (nI np), .int (nI (psum P np))])), (t0, .inr (8, [.ref tq, .int (nI n), .int pl])), (tq, .inl (g.2.1 1, 400, .inl (ub fb))), (va, .inl (g.2.1 4, 10, .inr (.inr (.inr (.inr fA'))))), (sp, .inr (10, [.int pe, .int lc, .int de, .ref (sp + 1), .ref (sp + 2), .ref (sp + 3), .ref (sp + 4), .ref (sp + 5), .ref (sp + 6), .ref (sp + 7), .ref (sp + 8), .ref (sp + 9), .ref (sp + 10), .ref (sp + 11), .int gl, .ref v15])), (sp + 1, .inl (g.2.1 1, 4, .inl g1)), (sp + 2, .inl (g.2.1 1, 4, .inl g2)), (sp + 3, .inl (g.2.1 1, 4, .inl g3)), (sp + 7, .inl (g.2.1 1, 72, .inl L)), (sp + 4, .inl (g.2.1 1, 7, .inl k6)), (sp + 5, .inl (g.2.1 1, 7, .inl k7)), (sp + 6, .inl (g.2.1 1, 7, .inl k8)), (sp + 8, .inl (g.2.1 1, 175, .inl K)), (sp + 11, .inl (g.2.1 1, 28, .inl k13))] : va_W).map (fun w => Γ w.1) = [1, 2, 22, 20, 13, 110, 111, 112, 113, 24, 24, 24, 26, 29] := by
            show [Γ x0, Γ t0, Γ tq, Γ va, Γ sp, Γ (sp + 1), Γ (sp + 2), Γ (sp + 3), Γ (sp + 7), Γ (sp + 4), Γ (sp + 5), Γ (sp + 6), Γ (sp + 8), Γ (sp + 11)] = _
            rw [tx, e0, eq, ea, es, s1, s2, s3, s7, s4, s5, s6, s8, s11]
          have kp : ∀ {q t : Nat}, Γ q = t → t ≠ 0 → ([1, 2, 22, 20, 13, 110, 111, 112, 113, 24, 24, 24, 26, 29].any fun u => Nat.beq u t) = false → H1[q]? = H[q]? := fun {q t} h h0 h1 => hk q (lt h h0) (nin_tag tg h h1 (lt h h0))
          exact ⟨RCP.same (P := P) hT tx hnp k2 k11 k14 k15 (plan_kept hT hk tg (by decide)) (fun j hj => va_up_ne _ _ (by have := (hZ j hj).1; omega)) (FE_at (k := 1) Y0 rfl (by decide) rfl) (hP 3 _ rfl) (FE_at (k := 2) Y0 rfl (by decide) rfl) (k11.kept (kp ep (by decide) rfl)) (FE_at (k := 13) Y0 rfl (by decide) rfl), oldp_of hT hk tg (by decide)⟩
      · have tg : ([(x0, .inr (11, [.ref t0, .ref va, .ref pa, .ref c3, .ref c4, .ref c5, .ref c6, .ref c7, .ref c8, .ref c9, .ref sp, .int (nI nv), .int (nI np), .int (nI (psum P np))])), (t0, .inr (8, [.ref tq, .int (nI n), .int pl])), (tq, .inl (g.2.1 1, 400, .inl (ub fb))), (sp, .inr (10, [.int pe, .int lc, .int de, .ref (sp + 1), .ref (sp + 2), .ref (sp + 3), .ref (sp + 4), .ref (sp + 5), .ref (sp + 6), .ref (sp + 7), .ref (sp + 8), .ref (sp + 9), .ref (sp + 10), .ref (sp + 11), .int gl, .ref v15])), (sp + 1, .inl (g.2.1 1, 4, .inl g1)), (sp + 2, .inl (g.2.1 1, 4, .inl g2)), (sp + 3, .inl (g.2.1 1, 4, .inl g3)), (sp + 7, .inl (g.2.1 1, 72, .inl L))] : va_W).map (fun w => Γ w.1) = [1, 2, 22, 13, 110, 111, 112, 113] := by
          show [Γ x0, Γ t0, Γ tq, Γ sp, Γ (sp + 1), Γ (sp + 2), Γ (sp + 3), Γ (sp + 7)] = _
          rw [tx, e0, eq, es, s1, s2, s3, s7]
        refine ⟨0, 0, _, _, MetI.grow (C_X11_valley0 l g x0 t0 va pa c3 c4 c5 c6 c7 c8 c9 nv np (nI (psum P np)) tq (ub fb) n pl sp (sp + 1) (sp + 2) (sp + 3) (sp + 4) (sp + 5) (sp + 6) (sp + 7) (sp + 8) (sp + 9) (sp + 10) (sp + 11) v15 pe lc de gl g1 g2 g3 L hn hnv9 hF) (by decide) (Nat.zero_le _) (Nat.zero_le _) _, vaP_cons A0 (vaP_cons A1 (vaP_cons h8 (vaP_cons A3 (vaP_cons B1 (vaP_cons B2 (vaP_cons B3 (vaP_cons B7 vaP_nil))))))), D_tags tg (by decide) (by decide), fun x u H1 hp hP hz hk => ?_⟩
        obtain ⟨rfl, rfl⟩ := hp
        have Y0 := hP 0 _ rfl
        have kp : ∀ {q t : Nat}, Γ q = t → t ≠ 0 → ([1, 2, 22, 13, 110, 111, 112, 113].any fun u => Nat.beq u t) = false → H1[q]? = H[q]? := fun {q t} h h0 h1 => hk q (lt h h0) (nin_tag tg h h1 (lt h h0))
        exact ⟨RCP.same (P := P) hT tx hnp k2 k11 k14 k15 (plan_kept hT hk tg (by decide)) (fun _ _ => rfl) (FE_at (k := 1) Y0 rfl (by decide) rfl) (g9.kept (kp ea (by decide) rfl)) (FE_at (k := 2) Y0 rfl (by decide) rfl) (k11.kept (kp ep (by decide) rfl)) (FE_at (k := 13) Y0 rfl (by decide) rfl), oldp_of hT hk tg (by decide)⟩

end

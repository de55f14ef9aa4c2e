/-- the valley that a text tells -/
def TXW (n : Nat) (f : Nat → Int32) (w : VV) : Prop := ∃ L : Nat → Int32, lspF L ∧ (rdx n f L).2.1 = nI w.p ∧ w.lc = (rdx n f L).2.2.2.1 ∧ w.de = (rdx n f L).2.2.2.2.1 ∧ w.kn = (rdx n f L).2.2.2.2.2.1 ∧ w.mu = (rdx n f L).2.2.2.2.2.2.1 ∧ w.mn = (rdx n f L).2.2.2.2.2.2.2.1 ∧ w.L = (rdx n f L).2.2.2.2.2.2.2.2 ∧ (∀ j : Nat, j < 7 → w.cl j = 0) ∧ (∀ j : Nat, j < 28 → w.ta j = -1) ∧ VOK w
/-- what valley makes of the valleys -/
def VLR (n : Nat) (f : Nat → Int32) (nv : Nat) (V V' : Nat → VV) : Prop := (vlN n nv f ∧ ∃ w, TXW n f w ∧ V' = vset V nv w) ∨ (¬ vlN n nv f ∧ V' = V)
def vlM (n : Nat) (f : Nat → Int32) (nv : Nat) : Nat := if nv < 10 ∧ rdF n f = -1 then nv + 1 else nv
theorem vlM_y {n nv : Nat} {f : Nat → Int32} (h : vlN n nv f) : vlM n f nv = nv + 1 := if_pos h
theorem vlM_n {n nv : Nat} {f : Nat → Int32} (h : ¬ vlN n nv f) : vlM n f nv = nv := if_neg h
theorem settle_at {g1 g2 g3 k6 k7 k8 : Nat → Int32} {j : Nat} : ∀ m : Nat, (L1_X10_settle g1 g2 g3 k6 k7 k8 m).1 j = (if j < m then F_X10_newsOfOne g1 (nI j) else k6 j) ∧ (L1_X10_settle g1 g2 g3 k6 k7 k8 m).2.1 j = (if j < m then F_X10_newsOfOne g2 (nI j) else k7 j) ∧ (L1_X10_settle g1 g2 g3 k6 k7 k8 m).2.2 j = if j < m then F_X10_newsOfOne g3 (nI j) else k8 j
  | 0 => ⟨(if_neg (Nat.not_lt_zero _)).symm, (if_neg (Nat.not_lt_zero _)).symm, (if_neg (Nat.not_lt_zero _)).symm⟩
  | m + 1 => by
    obtain ⟨h1, h2, h3⟩ := settle_at (g1 := g1) (g2 := g2) (g3 := g3) (k6 := k6) (k7 := k7) (k8 := k8) (j := j) m
    show upd (L1_X10_settle g1 g2 g3 k6 k7 k8 m).1 m (F_X10_newsOfOne g1 (nI m)) j = _ ∧ upd (L1_X10_settle g1 g2 g3 k6 k7 k8 m).2.1 m (F_X10_newsOfOne g2 (nI m)) j = _ ∧ upd (L1_X10_settle g1 g2 g3 k6 k7 k8 m).2.2 m (F_X10_newsOfOne g3 (nI m)) j = _
    by_cases e : j = m
    · subst e
      rw [upd_eq, upd_eq, upd_eq, if_pos (Nat.lt_succ_self _), if_pos (Nat.lt_succ_self _), if_pos (Nat.lt_succ_self _)]
      exact ⟨rfl, rfl, rfl⟩
    · rw [upd_ne e, upd_ne e, upd_ne e, h1, h2, h3]
      by_cases hj : j < m
      · rw [if_pos hj, if_pos hj, if_pos hj, if_pos (by omega), if_pos (by omega), if_pos (by omega)]
        exact ⟨rfl, rfl, rfl⟩
      · rw [if_neg hj, if_neg hj, if_neg hj, if_neg (by omega), if_neg (by omega), if_neg (by omega)]
        exact ⟨rfl, rfl, rfl⟩
section
variable {l : Launch} {g : GG} {Γ : Nat → Nat} {x0 m0 n nv np a : Nat} {fb : Nat → Int32} {V : Nat → VV} {H H1 : Heap}
/-- what touches the valley that is being read, and no other one -/
def WINS (Γ : Nat → Nat) (sp : Nat) (ws : va_W) : Prop := ∀ (k : Nat) (q : Nat) (e : va_E), ws[k]? = some (q, e) → (Γ q ≠ 3 ∧ (Γ q < 23 ∨ 29 < Γ q)) ∨ ∃ m : Nat, m ≤ 11 ∧ q = sp + m
theorem wins_cons {sp : Nat} {ws : va_W} {q : Nat} {e : va_E} (h : (Γ q ≠ 3 ∧ (Γ q < 23 ∨ 29 < Γ q)) ∨ ∃ m : Nat, m ≤ 11 ∧ q = sp + m) (hw : WINS Γ sp ws) : WINS Γ sp ((q, e) :: ws) := fun k q' e' hq => by
  cases k with
  | zero => cases hq; exact h
  | succ k => exact hw k q' e' hq
theorem wins_nil {sp : Nat} : WINS Γ sp [] := fun k q e h => by cases k <;> cases h
theorem wins_t {sp q t : Nat} (h : Γ q = t) (ht : t ≠ 3 ∧ (t < 23 ∨ 29 < t)) : (Γ q ≠ 3 ∧ (Γ q < 23 ∨ 29 < Γ q)) ∨ ∃ m : Nat, m ≤ 11 ∧ q = sp + m := Or.inl (by rw [h]; exact ht)
theorem wins_other {b m sp : Nat} {ws : va_W} (hb : BLK Γ b) (hs : SPB Γ sp) (hw : WINS Γ sp ws) (hm : m ≤ 11) (hT : HT g TS0 Γ H) (hk : ∀ q : Nat, q < H.size → ¬ va_A ws H.size q → H1[q]? = H[q]?) : H1[b + m]? = H[b + m]? := by
  have hlt : b + m < H.size := hT.lt (by rcases blk_tag hb hm with h | h <;> omega)
  refine hk _ hlt fun hA => ?_
  rcases hA with ⟨k, e, hq⟩ | hA
  · rcases hw k _ e hq with ⟨h1, h2⟩ | ⟨m', hm', h1⟩
    · rcases blk_tag hb hm with h | h <;> omega
    · rcases Nat.lt_trichotomy b sp with h | h | h
      · have h3 := hb.2 (sp - b) (by omega) (by omega)
        rw [show b + (sp - b) = sp by omega, hs.1] at h3
        omega
      · have h3 := hb.1
        rw [h, hs.1] at h3
        omega
      · have h3 := hs.2.2 (b - sp) (by omega) (by omega)
        rw [show sp + (b - sp) = b by omega] at h3
        exact h3 hb.1
  · omega
/-- the valleys that were, where only the one that is being read was touched -/
theorem RCV.olds {va sp : Nat} {fA : Nat → Option Nat} {ws : va_W} (hnv : nv ≤ 10) (hT : HT g TS0 Γ H) (tx : Γ x0 = 1) (h1 : FE g x0 11 1 H (.ref va)) (h9 : RFA g va 4 10 fA H) (h10 : ∀ i : Nat, i < nv → VOK (V i) ∧ ∃ a, fA i = some a ∧ VC g a (V i) H) (hs : SPB Γ sp) (hw : WINS Γ sp ws) (hk : ∀ q : Nat, q < H.size → ¬ va_A ws H.size q → H1[q]? = H[q]?) : ∀ i : Nat, i < nv → VOK (V i) ∧ ∃ a, fA i = some a ∧ VC g a (V i) H1 := fun i hi => by
  obtain ⟨ok, b, hB, hV⟩ := h10 i hi
  exact ⟨ok, b, hB, hV.kept fun m hm => wins_other (hV.blk hT (RCV.tag hT tx h1 h9 (by omega) hB)) hs hw hm hT hk⟩
end
section
variable {l : Launch} {g : GG} {Γ : Nat → Nat} {x0 m0 n nv np : Nat} {fb : Nat → Int32} {V : Nat → VV}
set_option maxHeartbeats 8000000 in
theorem E11_valleyV (hn : n ≤ 400) (hU : UQ TS0 Γ) (hnv : nv ≤ 10) (tx : Γ x0 = 1) : EG l g yX11_valley cX11_valley 1 9 13 380 x0 m0 Γ [.ref x0] (fun H => RC1 g x0 n fb nv np H ∧ RCV g x0 nv V H) (fun H v H1 => (∃ V' : Nat → VV, VLR n (ub fb) nv V V' ∧ RCV g x0 (vlM n (ub fb) nv) V' H1) ∧ OLDM Γ H H1) :=
  EG_of (GX11_valley l g x0 m0) hU fun H hT hLF hR => by
    obtain ⟨hR, hRV⟩ := hR
    obtain ⟨t0, tq, va, pa, sp, fA, fB, ⟨e0, eq, ea, ep, es⟩, h0, h1, h2, h3, h4, h5, h6, h7, h8, h9, h10, h11, h12, h13⟩ := hR.tags hT tx
    obtain ⟨c3, c4, c5, c6, c7, c8, c9, cc, A0⟩ := DV1 hT tx h0 h1 h2 h3 h4 h5
    obtain ⟨pl, A1⟩ := DVt hT e0 h6 h7
    obtain ⟨pe, lc, de, gl, v15, A3⟩ := spare_open hT es h13
    obtain ⟨s1, s2, s3, s4, s5, s6, s7, s8, s9, s10, s11⟩ := spare_tags hT es h13
    obtain ⟨g1, B1⟩ := ints_of hT s1 (by decide) rfl
    obtain ⟨g2, B2⟩ := ints_of hT s2 (by decide) rfl
    obtain ⟨g3, B3⟩ := ints_of hT s3 (by decide) rfl
    obtain ⟨L, B7⟩ := ints_of hT s7 (by decide) rfl
    obtain ⟨va', fA', sp', g11, g9, g10, g14, g15, g16, g17⟩ := hRV
    cases FE_fun h1 g11
    cases FE_fun h3 g15
    have hspb := spb_of hT es h13
    have lt : ∀ {q t : Nat}, Γ q = t → t ≠ 0 → q < H.size := fun h h0 => hT.lt (by rw [h]; exact h0)
    by_cases h10' : nv = 10
    · have tg : ([(x0, .inr (11, [.ref t0, .ref va, .ref pa, .ref c3, .ref c4, .ref c5, .ref c6, .ref c7, .ref c8, .ref c9, .ref sp, .int (nI nv), .int (nI np), .int cc]))] : va_W).map (fun w => Γ w.1) = [1] := by show [Γ x0] = _; rw [tx]
      refine ⟨0, 0, _, _, MetI.grow (C_X11_valleyF l g x0 t0 va pa c3 c4 c5 c6 c7 c8 c9 nv np cc sp h10') (Nat.zero_le _) (Nat.zero_le _) (Nat.zero_le _) _, vaP_cons A0 vaP_nil, D_tags tg (by decide) (by decide), fun x u H1 hp hP hz hk => ?_⟩
      obtain ⟨rfl, rfl⟩ := hp
      have Y0 := hP 0 _ rfl
      have hno : ¬ vlN n nv (ub fb) := fun h => absurd h.1 (by omega)
      have kp : ∀ {q t : Nat}, Γ q = t → t ≠ 0 → ([1].any fun u => Nat.beq u t) = false → H1[q]? = H[q]? := fun {q t} h h0 h1 => hk q (lt h h0) (nin_tag tg h h1 (lt h h0))
      rw [vlM_n hno]
      refine ⟨?_, oldm_of hT tg rfl rfl hk⟩
      exact ⟨V, Or.inr ⟨hno, rfl⟩, va, fA', sp, FE_at (k := 1) Y0 rfl (by decide) rfl, g9.kept (kp ea (by decide) rfl), RCV.olds hnv hT tx g11 g9 g10 hspb (wins_cons (wins_t tx (by decide)) wins_nil) hk, g14, FE_at (k := 10) Y0 rfl (by decide) rfl, FE_kept g16 (kp es (by decide) rfl), g17.kept (kp s10 (by decide) rfl)⟩
    · have hnv9 : nv < 10 := by omega
      by_cases hF : (rdx n (ub fb) L).1 = -1
      · have hL : lspF L := by
          obtain ⟨L2, e1, e2⟩ := (hT.2.1 rfl).1.1 (sp + 7) (Or.inr s7)
          exact fun j hj => by rw [(AT_fun B7 e1 hj).2]; exact e2 j hj
        obtain ⟨p, p1, p2, p3, -, y2, -, -, -, -, -, y8⟩ := (rdx_ok (f := ub fb) hn hL).2.resolve_left fun h => h.2.1 hF
        obtain ⟨k6, B4⟩ := ints_of hT s4 (by decide) rfl
        obtain ⟨k7, B5⟩ := ints_of hT s5 (by decide) rfl
        obtain ⟨k8, B6⟩ := ints_of hT s6 (by decide) rfl
        obtain ⟨K, B8⟩ := ints_of hT s8 (by decide) rfl
        obtain ⟨cdf, B9⟩ := ints_of hT s9 (by decide) rfl
        obtain ⟨k13, B11⟩ := ints_of hT s11 (by decide) rfl
        refine ⟨13, 380, _, _, MetI.grow (C_X11_valley1 l g x0 t0 va pa c3 c4 c5 c6 c7 c8 c9 nv np cc tq (ub fb) n pl sp (sp + 1) (sp + 2) (sp + 3) (sp + 4) (sp + 5) (sp + 6) (sp + 7) (sp + 8) (sp + 9) (sp + 10) (sp + 11) v15 pe lc de gl g1 g2 g3 L fA' k6 k7 k8 K k13 p hn hnv9 hF y2 p2 y8) (by decide) (Nat.le_refl _) (Nat.le_refl _) _, vaP_cons A0 (vaP_cons A1 (vaP_cons h8 (vaP_cons g9 (vaP_cons A3 (vaP_cons B1 (vaP_cons B2 (vaP_cons B3 (vaP_cons B7 (vaP_cons B4 (vaP_cons B5 (vaP_cons B6 (vaP_cons B8 (vaP_cons B11 vaP_nil))))))))))))), D_keys (K := (fun q => if q = sp + 4 then 1001 else if q = sp + 5 then 1002 else if q = sp + 6 then 1003 else Γ q)) (tl := [1, 2, 22, 20, 13, 110, 111, 112, 113, 1001, 1002, 1003, 26, 29]) (by show [(fun q => if q = sp + 4 then 1001 else if q = sp + 5 then 1002 else if q = sp + 6 then 1003 else Γ q) x0, (fun q => if q = sp + 4 then 1001 else if q = sp + 5 then 1002 else if q = sp + 6 then 1003 else Γ q) t0, (fun q => if q = sp + 4 then 1001 else if q = sp + 5 then 1002 else if q = sp + 6 then 1003 else Γ q) tq, (fun q => if q = sp + 4 then 1001 else if q = sp + 5 then 1002 else if q = sp + 6 then 1003 else Γ q) va, (fun q => if q = sp + 4 then 1001 else if q = sp + 5 then 1002 else if q = sp + 6 then 1003 else Γ q) sp, (fun q => if q = sp + 4 then 1001 else if q = sp + 5 then 1002 else if q = sp + 6 then 1003 else Γ q) (sp + 1), (fun q => if q = sp + 4 then 1001 else if q = sp + 5 then 1002 else if q = sp + 6 then 1003 else Γ q) (sp + 2), (fun q => if q = sp + 4 then 1001 else if q = sp + 5 then 1002 else if q = sp + 6 then 1003 else Γ q) (sp + 3), (fun q => if q = sp + 4 then 1001 else if q = sp + 5 then 1002 else if q = sp + 6 then 1003 else Γ q) (sp + 7), (fun q => if q = sp + 4 then 1001 else if q = sp + 5 then 1002 else if q = sp + 6 then 1003 else Γ q) (sp + 4), (fun q => if q = sp + 4 then 1001 else if q = sp + 5 then 1002 else if q = sp + 6 then 1003 else Γ q) (sp + 5), (fun q => if q = sp + 4 then 1001 else if q = sp + 5 then 1002 else if q = sp + 6 then 1003 else Γ q) (sp + 6), (fun q => if q = sp + 4 then 1001 else if q = sp + 5 then 1002 else if q = sp + 6 then 1003 else Γ q) (sp + 8), (fun q => if q = sp + 4 then 1001 else if q = sp + 5 then 1002 else if q = sp + 6 then 1003 else Γ q) (sp + 11)] = _; rw [show (fun q => if q = sp + 4 then 1001 else if q = sp + 5 then 1002 else if q = sp + 6 then 1003 else Γ q) x0 = 1 from key24 (sp := sp) tx s4 s5 s6 (by decide), show (fun q => if q = sp + 4 then 1001 else if q = sp + 5 then 1002 else if q = sp + 6 then 1003 else Γ q) t0 = 2 from key24 (sp := sp) e0 s4 s5 s6 (by decide), show (fun q => if q = sp + 4 then 1001 else if q = sp + 5 then 1002 else if q = sp + 6 then 1003 else Γ q) tq = 22 from key24 (sp := sp) eq s4 s5 s6 (by decide), show (fun q => if q = sp + 4 then 1001 else if q = sp + 5 then 1002 else if q = sp + 6 then 1003 else Γ q) va = 20 from key24 (sp := sp) ea s4 s5 s6 (by decide), show (fun q => if q = sp + 4 then 1001 else if q = sp + 5 then 1002 else if q = sp + 6 then 1003 else Γ q) sp = 13 from key24 (sp := sp) es s4 s5 s6 (by decide), show (fun q => if q = sp + 4 then 1001 else if q = sp + 5 then 1002 else if q = sp + 6 then 1003 else Γ q) (sp + 1) = 110 from key24 (sp := sp) s1 s4 s5 s6 (by decide), show (fun q => if q = sp + 4 then 1001 else if q = sp + 5 then 1002 else if q = sp + 6 then 1003 else Γ q) (sp + 2) = 111 from key24 (sp := sp) s2 s4 s5 s6 (by decide), show (fun q => if q = sp + 4 then 1001 else if q = sp + 5 then 1002 else if q = sp + 6 then 1003 else Γ q) (sp + 3) = 112 from key24 (sp := sp) s3 s4 s5 s6 (by decide), show (fun q => if q = sp + 4 then 1001 else if q = sp + 5 then 1002 else if q = sp + 6 then 1003 else Γ q) (sp + 7) = 113 from key24 (sp := sp) s7 s4 s5 s6 (by decide), show (fun q => if q = sp + 4 then 1001 else if q = sp + 5 then 1002 else if q = sp + 6 then 1003 else Γ q) (sp + 4) = 1001 from if_pos rfl, show (fun q => if q = sp + 4 then 1001 else if q = sp + 5 then 1002 else if q = sp + 6 then 1003 else Γ q) (sp + 5) = 1002 from (if_neg (by omega)).trans (if_pos rfl), show (fun q => if q = sp + 4 then 1001 else if q = sp + 5 then 1002 else if q = sp + 6 then 1003 else Γ q) (sp + 6) = 1003 from (if_neg (by omega)).trans ((if_neg (by omega)).trans (if_pos rfl)), show (fun q => if q = sp + 4 then 1001 else if q = sp + 5 then 1002 else if q = sp + 6 then 1003 else Γ q) (sp + 8) = 26 from key24 (sp := sp) s8 s4 s5 s6 (by decide), show (fun q => if q = sp + 4 then 1001 else if q = sp + 5 then 1002 else if q = sp + 6 then 1003 else Γ q) (sp + 11) = 29 from key24 (sp := sp) s11 s4 s5 s6 (by decide)]) (by decide) ?_, fun x u H1 hp hP hz hk => ?_⟩
        · intro k w hw
          match k, hw with
          | 0, hw => cases hw; show Γ x0 ≠ 0; rw [tx]; decide
          | 1, hw => cases hw; show Γ t0 ≠ 0; rw [e0]; decide
          | 2, hw => cases hw; show Γ tq ≠ 0; rw [eq]; decide
          | 3, hw => cases hw; show Γ va ≠ 0; rw [ea]; decide
          | 4, hw => cases hw; show Γ sp ≠ 0; rw [es]; decide
          | 5, hw => cases hw; show Γ (sp + 1) ≠ 0; rw [s1]; decide
          | 6, hw => cases hw; show Γ (sp + 2) ≠ 0; rw [s2]; decide
          | 7, hw => cases hw; show Γ (sp + 3) ≠ 0; rw [s3]; decide
          | 8, hw => cases hw; show Γ (sp + 7) ≠ 0; rw [s7]; decide
          | 9, hw => cases hw; show Γ (sp + 4) ≠ 0; rw [s4]; decide
          | 10, hw => cases hw; show Γ (sp + 5) ≠ 0; rw [s5]; decide
          | 11, hw => cases hw; show Γ (sp + 6) ≠ 0; rw [s6]; decide
          | 12, hw => cases hw; show Γ (sp + 8) ≠ 0; rw [s8]; decide
          | 13, hw => cases hw; show Γ (sp + 11) ≠ 0; rw [s11]; decide
          | k + 14, hw => cases hw
        · obtain ⟨z, hx, rfl⟩ := hp
          have Y0 := hP 0 _ rfl
          have Y14 := hP 14 _ rfl
          have hyes : vlN n nv (ub fb) := ⟨hnv9, (rdx_F L hn).symm.trans hF⟩
          have tg : ([(x0, .inr (11, [.ref t0, .ref va, .ref pa, .ref c3, .ref c4, .ref c5, .ref c6, .ref c7, .ref c8, .ref c9, .ref sp, .int (nI nv), .int (nI np), .int cc])), (t0, .inr (8, [.ref tq, .int (nI n), .int pl])), (tq, .inl (g.2.1 1, 400, .inl (ub fb))), (va, .inl (g.2.1 4, 10, .inr (.inr (.inr (.inr fA'))))), (sp, .inr (10, [.int pe, .int lc, .int de, .ref (sp + 1), .ref (sp + 2), .ref (sp + 3), .ref (sp + 4), .ref (sp + 5), .ref (sp + 6), .ref (sp + 7), .ref (sp + 8), .ref (sp + 9), .ref (sp + 10), .ref (sp + 11), .int gl, .ref v15])), (sp + 1, .inl (g.2.1 1, 4, .inl g1)), (sp + 2, .inl (g.2.1 1, 4, .inl g2)), (sp + 3, .inl (g.2.1 1, 4, .inl g3)), (sp + 7, .inl (g.2.1 1, 72, .inl L)), (sp + 4, .inl (g.2.1 1, 7, .inl k6)), (sp + 5, .inl (g.2.1 1, 7, .inl k7)), (sp + 6, .inl (g.2.1 1, 7, .inl k8)), (sp + 8, .inl (g.2.1 1, 175, .inl K)), (sp + 11, .inl (g.2.1 1, 28, .inl k13))] : va_W).map (fun w => Γ w.1) = [1, 2, 22, 20, 13, 110, 111, 112, 113, 24, 24, 24, 26, 29] := by
            show [Γ x0, Γ t0, Γ tq, Γ va, Γ sp, Γ (sp + 1), Γ (sp + 2), Γ (sp + 3), Γ (sp + 7), Γ (sp + 4), Γ (sp + 5), Γ (sp + 6), Γ (sp + 8), Γ (sp + 11)] = _
            rw [tx, e0, eq, ea, es, s1, s2, s3, s7, s4, s5, s6, s8, s11]
          have kp : ∀ {q t : Nat}, Γ q = t → t ≠ 0 → ([1, 2, 22, 20, 13, 110, 111, 112, 113, 24, 24, 24, 26, 29].any fun u => Nat.beq u t) = false → H1[q]? = H[q]? := fun {q t} h h0 h1 => hk q (lt h h0) (nin_tag tg h h1 (lt h h0))
          have hok : VOK (((p, (rdx n (ub fb) L).2.2.2.1, (rdx n (ub fb) L).2.2.2.2.1, (rdx n (ub fb) L).2.2.2.2.2.1, (rdx n (ub fb) L).2.2.2.2.2.2.1, (rdx n (ub fb) L).2.2.2.2.2.2.2.1, (rdx n (ub fb) L).2.2.2.2.2.2.2.2, cdf, fun _ => 0, fun _ => -1) : VV) : VV) := ⟨p2, y2, y8, fun _ _ => ⟨rfl, Nat.zero_le _⟩⟩
          rw [vlM_y hyes]
          refine ⟨?_, oldm_of hT tg rfl rfl hk⟩
          refine ⟨vset V nv ((p, (rdx n (ub fb) L).2.2.2.1, (rdx n (ub fb) L).2.2.2.2.1, (rdx n (ub fb) L).2.2.2.2.2.1, (rdx n (ub fb) L).2.2.2.2.2.2.1, (rdx n (ub fb) L).2.2.2.2.2.2.2.1, (rdx n (ub fb) L).2.2.2.2.2.2.2.2, cdf, fun _ => 0, fun _ => -1) : VV), Or.inl ⟨hyes, ((p, (rdx n (ub fb) L).2.2.2.1, (rdx n (ub fb) L).2.2.2.2.1, (rdx n (ub fb) L).2.2.2.2.2.1, (rdx n (ub fb) L).2.2.2.2.2.2.1, (rdx n (ub fb) L).2.2.2.2.2.2.2.1, (rdx n (ub fb) L).2.2.2.2.2.2.2.2, cdf, fun _ => 0, fun _ => -1) : VV), ⟨L, hL, p3, rfl, rfl, rfl, rfl, rfl, rfl, fun _ _ => rfl, fun _ _ => rfl, hok⟩, rfl⟩, va, va_up fA' nv (some sp), z, FE_at (k := 1) Y0 rfl (by decide) rfl, hP 3 _ rfl, fun i hi => ?_, fun i j a hi hj hA hB => ?_, FE_at (k := 10) Y0 rfl (by decide) rfl, FE_at (k := 12) Y14 rfl (by decide) rfl, hP 24 _ rfl⟩
          · by_cases hi2 : i = nv
            · subst hi2
              rw [vset_eq]
              have kp : ∀ {q t : Nat}, Γ q = t → t ≠ 0 → ([1, 2, 22, 20, 13, 110, 111, 112, 113, 24, 24, 24, 26, 29].any fun u => Nat.beq u t) = false → H1[q]? = H[q]? := kp
              refine ⟨hok, sp, va_up_self _ _ _, ?_⟩
              have kp : ∀ {q : Nat}, Γ q = 27 ∨ Γ q = 28 → H1[q]? = H[q]? := fun {q} h => by
                rcases h with h | h
                · exact kp h (by decide) rfl
                · exact kp h (by decide) rfl
              have s9 := Or.inl (b := Γ (sp + 9) = 28) s9
              have s10 := Or.inr (a := Γ (sp + 10) = 27) s10
              exact ⟨gl, v15, vaP_cons (by have q4 := hP 4 _ rfl; rw [p3] at q4; exact q4) (vaP_cons (hP 5 _ rfl) (vaP_cons (hP 6 _ rfl) (vaP_cons (hP 7 _ rfl) (vaP_cons (AT_ext (hP 8 _ rfl) fun j hj => ((settle_at 7).1.trans (if_pos hj))) (vaP_cons (AT_ext (hP 9 _ rfl) fun j hj => ((settle_at 7).2.1.trans (if_pos hj))) (vaP_cons (AT_ext (hP 10 _ rfl) fun j hj => ((settle_at 7).2.2.trans (if_pos hj))) (vaP_cons (hP 11 _ rfl) (vaP_cons (hP 12 _ rfl) (vaP_cons (va_at.kept B9 (kp s9)) (vaP_cons (va_at.kept g17 (kp s10)) (vaP_cons (hP 13 _ rfl) vaP_nil)))))))))))⟩
            · rw [vset_ne hi2, va_up_ne _ _ hi2]
              exact RCV.olds hnv hT tx g11 g9 g10 hspb (wins_cons (wins_t tx (by decide)) (wins_cons (wins_t e0 (by decide)) (wins_cons (wins_t eq (by decide)) (wins_cons (wins_t ea (by decide)) (wins_cons (Or.inr ⟨0, by decide, rfl⟩) (wins_cons (Or.inr ⟨1, by decide, rfl⟩) (wins_cons (Or.inr ⟨2, by decide, rfl⟩) (wins_cons (Or.inr ⟨3, by decide, rfl⟩) (wins_cons (Or.inr ⟨7, by decide, rfl⟩) (wins_cons (Or.inr ⟨4, by decide, rfl⟩) (wins_cons (Or.inr ⟨5, by decide, rfl⟩) (wins_cons (Or.inr ⟨6, by decide, rfl⟩) (wins_cons (Or.inr ⟨8, by decide, rfl⟩) (wins_cons (Or.inr ⟨11, by decide, rfl⟩) (wins_nil))))))))))))))) hk i (by omega)
          · by_cases hi2 : i = nv
            · by_cases hj2 : j = nv
              · omega
              · subst hi2
                rw [va_up_self] at hA
                rw [va_up_ne _ _ hj2] at hB
                cases hA
                have := RCV.tag hT tx g11 g9 (by omega) hB
                rw [es] at this
                cases this
            · by_cases hj2 : j = nv
              · subst hj2
                rw [va_up_self] at hB
                rw [va_up_ne _ _ hi2] at hA
                cases hB
                have := RCV.tag hT tx g11 g9 (by omega) hA
                rw [es] at this
                cases this
              · rw [va_up_ne _ _ hi2] at hA
                rw [va_up_ne _ _ hj2] at hB
                exact g14 i j a (by omega) (by omega) hA hB
      · have tg : ([(x0, .inr (11, [.ref t0, .ref va, .ref pa, .ref c3, .ref c4, .ref c5, .ref c6, .ref c7, .ref c8, .ref c9, .ref sp, .int (nI nv), .int (nI np), .int cc])), (t0, .inr (8, [.ref tq, .int (nI n), .int pl])), (tq, .inl (g.2.1 1, 400, .inl (ub fb))), (sp, .inr (10, [.int pe, .int lc, .int de, .ref (sp + 1), .ref (sp + 2), .ref (sp + 3), .ref (sp + 4), .ref (sp + 5), .ref (sp + 6), .ref (sp + 7), .ref (sp + 8), .ref (sp + 9), .ref (sp + 10), .ref (sp + 11), .int gl, .ref v15])), (sp + 1, .inl (g.2.1 1, 4, .inl g1)), (sp + 2, .inl (g.2.1 1, 4, .inl g2)), (sp + 3, .inl (g.2.1 1, 4, .inl g3)), (sp + 7, .inl (g.2.1 1, 72, .inl L))] : va_W).map (fun w => Γ w.1) = [1, 2, 22, 13, 110, 111, 112, 113] := by
          show [Γ x0, Γ t0, Γ tq, Γ sp, Γ (sp + 1), Γ (sp + 2), Γ (sp + 3), Γ (sp + 7)] = _
          rw [tx, e0, eq, es, s1, s2, s3, s7]
        refine ⟨0, 0, _, _, MetI.grow (C_X11_valley0 l g x0 t0 va pa c3 c4 c5 c6 c7 c8 c9 nv np cc tq (ub fb) n pl sp (sp + 1) (sp + 2) (sp + 3) (sp + 4) (sp + 5) (sp + 6) (sp + 7) (sp + 8) (sp + 9) (sp + 10) (sp + 11) v15 pe lc de gl g1 g2 g3 L hn hnv9 hF) (by decide) (Nat.zero_le _) (Nat.zero_le _) _, vaP_cons A0 (vaP_cons A1 (vaP_cons h8 (vaP_cons A3 (vaP_cons B1 (vaP_cons B2 (vaP_cons B3 (vaP_cons B7 vaP_nil))))))), D_tags tg (by decide) (by decide), fun x u H1 hp hP hz hk => ?_⟩
        obtain ⟨rfl, rfl⟩ := hp
        have Y0 := hP 0 _ rfl
        have Y3 := hP 3 _ rfl
        have hno : ¬ vlN n nv (ub fb) := fun h => hF ((rdx_F L hn).trans h.2)
        have kp : ∀ {q t : Nat}, Γ q = t → t ≠ 0 → ([1, 2, 22, 13, 110, 111, 112, 113].any fun u => Nat.beq u t) = false → H1[q]? = H[q]? := fun {q t} h h0 h1 => hk q (lt h h0) (nin_tag tg h h1 (lt h h0))
        rw [vlM_n hno]
        refine ⟨?_, oldm_of hT tg rfl rfl hk⟩
        exact ⟨V, Or.inr ⟨hno, rfl⟩, va, fA', sp, FE_at (k := 1) Y0 rfl (by decide) rfl, g9.kept (kp ea (by decide) rfl), RCV.olds hnv hT tx g11 g9 g10 hspb (wins_cons (wins_t tx (by decide)) (wins_cons (wins_t e0 (by decide)) (wins_cons (wins_t eq (by decide)) (wins_cons (Or.inr ⟨0, by decide, rfl⟩) (wins_cons (Or.inr ⟨1, by decide, rfl⟩) (wins_cons (Or.inr ⟨2, by decide, rfl⟩) (wins_cons (Or.inr ⟨3, by decide, rfl⟩) (wins_cons (Or.inr ⟨7, by decide, rfl⟩) (wins_nil))))))))) hk, g14, FE_at (k := 10) Y0 rfl (by decide) rfl, FE_at (k := 12) Y3 rfl (by decide) rfl, g17.kept (kp s10 (by decide) rfl)⟩
set_option maxHeartbeats 8000000 in
theorem E11_planV (hU : UQ TS0 Γ) (hnv : nv ≤ 10) (hnp : np ≤ 12) (tx : Γ x0 = 1) (p0 : Int32) : EG l g yX11_plan cX11_plan 3 3 8 289 x0 m0 Γ [.ref x0, .int p0] (fun H => RC1 g x0 n fb nv np H ∧ RCV g x0 nv V H) (fun H v H1 => RCV g x0 nv V H1 ∧ OLDM Γ H H1) :=
  EG_of (GX11_plan l g x0 m0 p0) hU fun H hT hLF hR => by
    obtain ⟨hR, hRV⟩ := hR
    obtain ⟨t0, tq, va, pa, sp, fA, fB, ⟨e0, eq, ea, ep, es⟩, h0, h1, h2, h3, h4, h5, h6, h7, h8, h9, h10, h11, h12, h13⟩ := hR.tags hT tx
    obtain ⟨c3, c4, c5, c6, c7, c8, c9, cc, A0⟩ := DV1 hT tx h0 h1 h2 h3 h4 h5
    obtain ⟨va', fA', sp', g11, g9, g10, g14, g15, g16, g17⟩ := hRV
    cases FE_fun h1 g11
    cases FE_fun h3 g15
    have hspb := spb_of hT es h13
    have lt : ∀ {q t : Nat}, Γ q = t → t ≠ 0 → q < H.size := fun h h0 => hT.lt (by rw [h]; exact h0)
    have fin : ∀ {ws : va_W} {tl : List Nat} {H1 : Heap}, ws.map (fun w => Γ w.1) = tl → (tl.any fun u => Nat.beq u 13) = false → (tl.any fun u => Nat.beq u 28) = false → (tl.any fun u => Nat.beq u 60) = false → (VKS.all fun k => !(tl.any fun u => Nat.beq u (VKT k)) && !(Nat.beq (VKT k) 0)) = true → (∀ a : Nat, WIN Γ a [] ws) → FE g x0 11 1 H1 (.ref va) → FE g x0 11 10 H1 (.ref sp) → RFA g va 4 10 fA' H1 → (∀ q : Nat, q < H.size → ¬ va_A ws H.size q → H1[q]? = H[q]?) → RCV g x0 nv V H1 ∧ OLDM Γ H H1 := fun tg t1 t2 t3 t4 hw y1 y10 y9 hk =>
      ⟨RCV.same hnv hT tx g11 g9 g10 g14 hw hk y1 y9 ⟨y10, FE_kept g16 (hk _ (lt es (by decide)) (nin_tag tg es t1 (lt es (by decide)))), g17.kept (hk _ (lt hspb.2.1 (by decide)) (nin_tag tg hspb.2.1 t2 (lt hspb.2.1 (by decide))))⟩, oldm_of hT tg t3 t4 hk⟩
    rcases vin_cases (n := nv) (by omega) p0 with hb | ⟨i, hi, rfl⟩
    · refine ⟨0, 0, _, _, MetI.grow (K_X11_plan0 l g x0 t0 va pa c3 c4 c5 c6 c7 c8 c9 sp nv np cc fA' p0 hb) (by decide) (Nat.zero_le _) (Nat.zero_le _) _, vaP_cons A0 (vaP_cons g9 vaP_nil), D_tags (tl := [1, 20]) (by show [Γ x0, Γ va] = _; rw [tx, ea]) (by decide) (by decide), fun x u H1 hp hP hz hk => ?_⟩
      obtain ⟨hx, rfl⟩ := hp
      exact fin (tl := [1, 20]) (by show [Γ x0, Γ va] = _; rw [tx, ea]) rfl rfl rfl rfl (fun a => win_cons (win_t tx (by decide)) (win_cons (win_t ea (by decide)) win_nil)) (FE_at (k := 1) (hP 0 _ rfl) rfl (by decide) rfl) (FE_at (k := 10) (hP 0 _ rfl) rfl (by decide) rfl) (hP 1 _ rfl) hk
    · obtain ⟨-, v, hv, -⟩ := g10 i hi
      by_cases h12' : np = 12
      · refine ⟨0, 0, _, _, MetI.grow (C_X11_plan0b l g x0 t0 va pa c3 c4 c5 c6 c7 c8 c9 sp nv np cc fA' i v hi hnv hv h12') (by decide) (Nat.zero_le _) (Nat.zero_le _) _, vaP_cons A0 (vaP_cons g9 vaP_nil), D_tags (tl := [1, 20]) (by show [Γ x0, Γ va] = _; rw [tx, ea]) (by decide) (by decide), fun x u H1 hp hP hz hk => ?_⟩
        obtain ⟨hx, rfl⟩ := hp
        exact fin (tl := [1, 20]) (by show [Γ x0, Γ va] = _; rw [tx, ea]) rfl rfl rfl rfl (fun a => win_cons (win_t tx (by decide)) (win_cons (win_t ea (by decide)) win_nil)) (FE_at (k := 1) (hP 0 _ rfl) rfl (by decide) rfl) (FE_at (k := 10) (hP 0 _ rfl) rfl (by decide) rfl) (hP 1 _ rfl) hk
      · refine ⟨8, 289, _, _, MetI.grow (C_X11_plan1 l g x0 t0 va pa c3 c4 c5 c6 c7 c8 c9 sp nv np cc fA' fB i v hi hnv hv (by omega)) (by decide) (Nat.le_refl _) (Nat.le_refl _) _, vaP_cons A0 (vaP_cons g9 (vaP_cons h11 vaP_nil)), D_tags (tl := [1, 20, 21]) (by show [Γ x0, Γ va, Γ pa] = _; rw [tx, ea, ep]) (by decide) (by decide), fun x u H1 hp hP hz hk => ?_⟩
        obtain ⟨z, rfl, rfl⟩ := hp
        exact fin (tl := [1, 20, 21]) (by show [Γ x0, Γ va, Γ pa] = _; rw [tx, ea, ep]) rfl rfl rfl rfl (fun a => win_cons (win_t tx (by decide)) (win_cons (win_t ea (by decide)) (win_cons (win_t ep (by decide)) win_nil))) (FE_at (k := 1) (hP 0 _ rfl) rfl (by decide) rfl) (FE_at (k := 10) (hP 0 _ rfl) rfl (by decide) rfl) (hP 1 _ rfl) hk
end

/-- the fault of a tape, whatever stood in the rows before -/
def rdF (n : Nat) (f : Nat → Int32) : Int32 := (rdx n f (fun _ => 0)).1
def rtz : RTX := (0, 0, fun _ => 0, fun _ => 0, fun _ => 0, fun _ => 0, fun _ => 0, fun _ => 0, fun _ => 0, fun _ => 0, fun _ => 0, fun _ => 0, fun _ => 0)
theorem rdx_F {n : Nat} {f : Nat → Int32} (L : Nat → Int32) (hn : n ≤ 400) : (rdx n f L).1 = rdF n f :=
  ((rd_agree (v := 0) (P := fun _ => 0) (S := rtz) hn (by omega)).1.symm).trans (rd_agree (v := 0) (P := fun _ => 0) (S := rtz) (L := fun _ => 0) hn (by omega)).1
theorem rdv_F {n v : Nat} {f : Nat → Int32} (P : Nat → Int32) (S : RTX) (hn : n ≤ 400) (hv : v ≤ 10) : (rdv n f v P S).2.1 = rdF n f := (rd_agree (P := P) (S := S) (L := fun _ => 0) hn hv).1
theorem rdv_ok1 {n v : Nat} {f : Nat → Int32} (P : Nat → Int32) (S : RTX) (hn : n ≤ 400) (hv : v ≤ 10) : ¬ (rdv n f v P S).1 = 0 ↔ rdF n f = -1 := by
  have h := (rd_agree (P := P) (S := S) (L := fun _ => 0) hn hv (f := f)).2
  constructor
  · intro h0
    rcases h with ⟨a, b⟩ | ⟨a, b, c⟩
    · exact absurd a h0
    · exact b
  · intro h0
    rcases h with ⟨a, b⟩ | ⟨a, b, c⟩
    · exact absurd h0 b
    · exact a
theorem vin_cases {n : Nat} (hn : n < 2 ^ 31) (x : Int32) : (x < 0 ∨ nI n ≤ x) ∨ ∃ i : Nat, i < n ∧ x = nI i := by
  by_cases h0 : x < 0
  · exact Or.inl (Or.inl h0)
  · by_cases h1 : nI n ≤ x
    · exact Or.inl (Or.inr h1)
    · obtain ⟨a, b⟩ := tN_in hn (Int32.not_lt.mp h0) (Int32.not_le.mp h1)
      exact Or.inr ⟨tN x, b, a⟩
theorem rv_no {n : Nat} {x : Int32} (h : x < 0 ∨ nI n ≤ x) : F_X12_isValley n x = 0 := by
  unfold F_X12_isValley
  by_cases h0 : x < 0
  · rw [if_pos h0]
  · rw [if_neg h0, if_pos (h.resolve_left h0)]
theorem spare_open {g : GG} {Γ : Nat → Nat} {H : Heap} {sp : Nat} (hT : HT g TS0 Γ H) (hs : Γ sp = 13) (h : ∀ j : Nat, j < 11 → FE g sp 10 (3 + j) H (.ref (sp + 1 + j))) : ∃ (pe lc de gl : Int32) (v15 : Nat), va_at g.1 CLS (sp, .inr (10, [.int pe, .int lc, .int de, .ref (sp + 1), .ref (sp + 2), .ref (sp + 3), .ref (sp + 4), .ref (sp + 5), .ref (sp + 6), .ref (sp + 7), .ref (sp + 8), .ref (sp + 9), .ref (sp + 10), .ref (sp + 11), .int gl, .ref v15])) H := by
  obtain ⟨pe, lc, de, v3, v4, v5, v6, v7, v8, v9, v10, v11, v12, v13, gl, v15, A, -⟩ := DV13 hT hs
  cases FE_fun (FE_at (k := 3) A rfl (by decide) rfl) (h 0 (by omega))
  cases FE_fun (FE_at (k := 4) A rfl (by decide) rfl) (h 1 (by omega))
  cases FE_fun (FE_at (k := 5) A rfl (by decide) rfl) (h 2 (by omega))
  cases FE_fun (FE_at (k := 6) A rfl (by decide) rfl) (h 3 (by omega))
  cases FE_fun (FE_at (k := 7) A rfl (by decide) rfl) (h 4 (by omega))
  cases FE_fun (FE_at (k := 8) A rfl (by decide) rfl) (h 5 (by omega))
  cases FE_fun (FE_at (k := 9) A rfl (by decide) rfl) (h 6 (by omega))
  cases FE_fun (FE_at (k := 10) A rfl (by decide) rfl) (h 7 (by omega))
  cases FE_fun (FE_at (k := 11) A rfl (by decide) rfl) (h 8 (by omega))
  cases FE_fun (FE_at (k := 12) A rfl (by decide) rfl) (h 9 (by omega))
  cases FE_fun (FE_at (k := 13) A rfl (by decide) rfl) (h 10 (by omega))
  exact ⟨pe, lc, de, gl, v15, A⟩
/-- the tags of a spare valley's rows -/
theorem spare_tags {g : GG} {Γ : Nat → Nat} {H : Heap} {sp : Nat} (hT : HT g TS0 Γ H) (hs : Γ sp = 13) (h : ∀ j : Nat, j < 11 → FE g sp 10 (3 + j) H (.ref (sp + 1 + j))) : Γ (sp + 1) = 110 ∧ Γ (sp + 2) = 111 ∧ Γ (sp + 3) = 112 ∧ Γ (sp + 4) = 24 ∧ Γ (sp + 5) = 24 ∧ Γ (sp + 6) = 24 ∧ Γ (sp + 7) = 113 ∧ Γ (sp + 8) = 26 ∧ Γ (sp + 9) = 27 ∧ Γ (sp + 10) = 28 ∧ Γ (sp + 11) = 29 :=
  ⟨(ref_tag (k := 3) (u := 110) hT hs (by decide) rfl rfl (h 0 (by omega))).1, (ref_tag (k := 4) (u := 111) hT hs (by decide) rfl rfl (h 1 (by omega))).1, (ref_tag (k := 5) (u := 112) hT hs (by decide) rfl rfl (h 2 (by omega))).1, (ref_tag (k := 6) (u := 24) hT hs (by decide) rfl rfl (h 3 (by omega))).1, (ref_tag (k := 7) (u := 24) hT hs (by decide) rfl rfl (h 4 (by omega))).1, (ref_tag (k := 8) (u := 24) hT hs (by decide) rfl rfl (h 5 (by omega))).1, (ref_tag (k := 9) (u := 113) hT hs (by decide) rfl rfl (h 6 (by omega))).1, (ref_tag (k := 10) (u := 26) hT hs (by decide) rfl rfl (h 7 (by omega))).1, (ref_tag (k := 11) (u := 27) hT hs (by decide) rfl rfl (h 8 (by omega))).1, (ref_tag (k := 12) (u := 28) hT hs (by decide) rfl rfl (h 9 (by omega))).1, (ref_tag (k := 13) (u := 29) hT hs (by decide) rfl rfl (h 10 (by omega))).1⟩
theorem ints_of {g : GG} {Γ : Nat → Nat} {H : Heap} {q t n : Nat} {a : AV} (hT : HT g TS0 Γ H) (hq : Γ q = t) (h0 : t ≠ 0) (ht : TS0.1 t = .inr (1, n, a)) : ∃ f : Nat → Int32, AT g 1 n q f H := by
  obtain ⟨f, h, -⟩ := h_ints (g := g) (k := 1) (n := n) (a := a) (by decide) hT (by rw [hq]; exact h0) ((congrArg TS0.1 hq).trans ht)
  exact ⟨f, h⟩
theorem D_keys {Γ K : Nat → Nat} {ws : va_W} {tl : List Nat} (h : ws.map (fun w => K w.1) = tl) (hn : ndl tl = true) (h0 : ∀ (k : Nat) (w : Nat × va_E), ws[k]? = some w → Γ w.1 ≠ 0) : va_D (fun q => Γ q ≠ 0) ws := by
  refine ⟨fun i j p q hp hq e => ?_, fun k q hq => h0 k q hq⟩
  have h1 : tl[i]? = some (K p.1) := by rw [← h, List.getElem?_map, hp]; rfl
  have h2 : tl[j]? = some (K p.1) := by rw [← h, List.getElem?_map, hq, e]; rfl
  exact ndl_inj hn h1 h2
section
variable {l : Launch} {g : GG} {Γ : Nat → Nat} {x0 m0 n nv np : Nat} {fb : Nat → Int32}
/-- what valley answers, and how many there are then -/
def vlN (n nv : Nat) (f : Nat → Int32) : Prop := nv < 10 ∧ rdF n f = -1
theorem key24 {Γ : Nat → Nat} {sp q t : Nat} (h : Γ q = t) (h4 : Γ (sp + 4) = 24) (h5 : Γ (sp + 5) = 24) (h6 : Γ (sp + 6) = 24) (ht : t ≠ 24) : (fun q => if q = sp + 4 then 1001 else if q = sp + 5 then 1002 else if q = sp + 6 then 1003 else Γ q) q = t := by
  show (if q = sp + 4 then 1001 else if q = sp + 5 then 1002 else if q = sp + 6 then 1003 else Γ q) = t
  rw [if_neg (fun e => ht (by rw [← h, e]; exact h4)), if_neg (fun e => ht (by rw [← h, e]; exact h5)), if_neg (fun e => ht (by rw [← h, e]; exact h6))]
  exact h
theorem ctn_0 {n : Nat} (hn : n < 2 ^ 31) : ctn n 0 = 0 := by
  unfold ctn
  split
  · rfl
  · rename_i h
    exact absurd ⟨by decide, by
      show (0 : Int32) ≤ nI n
      exact nI_pos' hn⟩ h
set_option maxHeartbeats 8000000 in
theorem E11_valley (hn : n ≤ 400) (hU : UQ TS0 Γ) (hnv : nv ≤ 10) (tx : Γ x0 = 1) : EG l g yX11_valley cX11_valley 1 9 13 380 x0 m0 Γ [.ref x0] (RC1 g x0 n fb nv np) (fun H v H1 => ((vlN n nv (ub fb) ∧ v = .int (nI nv) ∧ RC1 g x0 0 fb (nv + 1) np H1) ∨ (¬ vlN n nv (ub fb) ∧ v = .int (-1) ∧ RC1 g x0 n fb nv np H1)) ∧ ∀ q : Nat, Γ q = 60 ∨ Γ q = 61 → H1[q]? = H[q]?) :=
  EG_of (GX11_valley l g x0 m0) hU fun H hT hLF hR => by
    obtain ⟨t0, tq, va, pa, sp, fA, fB, ⟨e0, eq, ea, ep, es⟩, h0, h1, h2, h3, h4, h5, h6, h7, h8, h9, h10, h11, h12, h13⟩ := hR.tags hT tx
    obtain ⟨c3, c4, c5, c6, c7, c8, c9, cc, A0⟩ := DV1 hT tx h0 h1 h2 h3 h4 h5
    obtain ⟨pl, A1⟩ := DVt hT e0 h6 h7
    obtain ⟨pe, lc, de, gl, v15, A3⟩ := spare_open hT es h13
    obtain ⟨s1, s2, s3, s4, s5, s6, s7, s8, s9, s10, s11⟩ := spare_tags hT es h13
    obtain ⟨g1, B1⟩ := ints_of hT s1 (by decide) rfl
    obtain ⟨g2, B2⟩ := ints_of hT s2 (by decide) rfl
    obtain ⟨g3, B3⟩ := ints_of hT s3 (by decide) rfl
    obtain ⟨L, B7⟩ := ints_of hT s7 (by decide) rfl
    have lt : ∀ {q t : Nat}, Γ q = t → t ≠ 0 → q < H.size := fun h h0 => hT.lt (by rw [h]; exact h0)
    by_cases h10' : nv = 10
    · have tg : ([(x0, .inr (11, [.ref t0, .ref va, .ref pa, .ref c3, .ref c4, .ref c5, .ref c6, .ref c7, .ref c8, .ref c9, .ref sp, .int (nI nv), .int (nI np), .int cc]))] : va_W).map (fun w => Γ w.1) = [1] := by show [Γ x0] = _; rw [tx]
      refine ⟨0, 0, _, _, MetI.grow (C_X11_valleyF l g x0 t0 va pa c3 c4 c5 c6 c7 c8 c9 nv np cc sp h10') (Nat.zero_le _) (Nat.zero_le _) (Nat.zero_le _) _, vaP_cons A0 vaP_nil, D_tags tg (by decide) (by decide), fun x u H1 hp hP hz hk => ?_⟩
      obtain ⟨rfl, rfl⟩ := hp
      have Y0 := hP 0 _ rfl
      have kp : ∀ {q t : Nat}, Γ q = t → t ≠ 0 → t ≠ 1 → H1[q]? = H[q]? := fun {q t} h h0 h1 => hk q (lt h h0) (nin_tag tg h (by show (Nat.beq 1 t || false) = false; rw [Bool.or_false]; exact Bool.eq_false_iff.mpr (fun e => h1 (Nat.eq_of_beq_eq_true e).symm)) (lt h h0))
      refine ⟨Or.inr ⟨fun h => absurd h.1 (by omega), rfl, t0, tq, va, pa, sp, fA, fB, FE_at (k := 0) Y0 rfl (by decide) rfl, FE_at (k := 1) Y0 rfl (by decide) rfl, FE_at (k := 2) Y0 rfl (by decide) rfl, FE_at (k := 10) Y0 rfl (by decide) rfl, FE_at (k := 11) Y0 rfl (by decide) rfl, FE_at (k := 12) Y0 rfl (by decide) rfl, FE_kept h6 (kp e0 (by decide) (by decide)), FE_kept h7 (kp e0 (by decide) (by decide)), h8.kept (kp eq (by decide) (by decide)), h9.kept (kp ea (by decide) (by decide)), h10, h11.kept (kp ep (by decide) (by decide)), h12, fun j hj => FE_kept (h13 j hj) (kp es (by decide) (by decide))⟩, fun q hq => ?_⟩
      rcases hq with h | h
      · exact kp h (by decide) (by decide)
      · exact kp h (by decide) (by decide)
    · have hnv9 : nv < 10 := by omega
      by_cases hF : (rdx n (ub fb) L).1 = -1
      · have hL : lspF L := by
          obtain ⟨L2, e1, e2⟩ := (hT.2.1 rfl).1.1 (sp + 7) (Or.inr s7)
          exact fun j hj => by rw [(AT_fun B7 e1 hj).2]; exact e2 j hj
        obtain ⟨p, p1, p2, -, -, y2, -, -, -, -, -, y8⟩ := (rdx_ok (f := ub fb) hn hL).2.resolve_left fun h => h.2.1 hF
        obtain ⟨k6, B4⟩ := ints_of hT s4 (by decide) rfl
        obtain ⟨k7, B5⟩ := ints_of hT s5 (by decide) rfl
        obtain ⟨k8, B6⟩ := ints_of hT s6 (by decide) rfl
        obtain ⟨K, B8⟩ := ints_of hT s8 (by decide) rfl
        obtain ⟨k13, B11⟩ := ints_of hT s11 (by decide) rfl
        refine ⟨13, 380, _, _, MetI.grow (C_X11_valley1 l g x0 t0 va pa c3 c4 c5 c6 c7 c8 c9 nv np cc tq (ub fb) n pl sp (sp + 1) (sp + 2) (sp + 3) (sp + 4) (sp + 5) (sp + 6) (sp + 7) (sp + 8) (sp + 9) (sp + 10) (sp + 11) v15 pe lc de gl g1 g2 g3 L fA k6 k7 k8 K k13 p hn hnv9 hF y2 p2 y8) (by decide) (Nat.le_refl _) (Nat.le_refl _) _, vaP_cons A0 (vaP_cons A1 (vaP_cons h8 (vaP_cons h9 (vaP_cons A3 (vaP_cons B1 (vaP_cons B2 (vaP_cons B3 (vaP_cons B7 (vaP_cons B4 (vaP_cons B5 (vaP_cons B6 (vaP_cons B8 (vaP_cons B11 vaP_nil))))))))))))), D_keys (K := (fun q => if q = sp + 4 then 1001 else if q = sp + 5 then 1002 else if q = sp + 6 then 1003 else Γ q)) (tl := [1, 2, 22, 20, 13, 110, 111, 112, 113, 1001, 1002, 1003, 26, 29]) (by show [(fun q => if q = sp + 4 then 1001 else if q = sp + 5 then 1002 else if q = sp + 6 then 1003 else Γ q) x0, (fun q => if q = sp + 4 then 1001 else if q = sp + 5 then 1002 else if q = sp + 6 then 1003 else Γ q) t0, (fun q => if q = sp + 4 then 1001 else if q = sp + 5 then 1002 else if q = sp + 6 then 1003 else Γ q) tq, (fun q => if q = sp + 4 then 1001 else if q = sp + 5 then 1002 else if q = sp + 6 then 1003 else Γ q) va, (fun q => if q = sp + 4 then 1001 else if q = sp + 5 then 1002 else if q = sp + 6 then 1003 else Γ q) sp, (fun q => if q = sp + 4 then 1001 else if q = sp + 5 then 1002 else if q = sp + 6 then 1003 else Γ q) (sp + 1), (fun q => if q = sp + 4 then 1001 else if q = sp + 5 then 1002 else if q = sp + 6 then 1003 else Γ q) (sp + 2), (fun q => if q = sp + 4 then 1001 else if q = sp + 5 then 1002 else if q = sp + 6 then 1003 else Γ q) (sp + 3), (fun q => if q = sp + 4 then 1001 else if q = sp + 5 then 1002 else if q = sp + 6 then 1003 else Γ q) (sp + 7), (fun q => if q = sp + 4 then 1001 else if q = sp + 5 then 1002 else if q = sp + 6 then 1003 else Γ q) (sp + 4), (fun q => if q = sp + 4 then 1001 else if q = sp + 5 then 1002 else if q = sp + 6 then 1003 else Γ q) (sp + 5), (fun q => if q = sp + 4 then 1001 else if q = sp + 5 then 1002 else if q = sp + 6 then 1003 else Γ q) (sp + 6), (fun q => if q = sp + 4 then 1001 else if q = sp + 5 then 1002 else if q = sp + 6 then 1003 else Γ q) (sp + 8), (fun q => if q = sp + 4 then 1001 else if q = sp + 5 then 1002 else if q = sp + 6 then 1003 else Γ q) (sp + 11)] = _; rw [show (fun q => if q = sp + 4 then 1001 else if q = sp + 5 then 1002 else if q = sp + 6 then 1003 else Γ q) x0 = 1 from key24 (sp := sp) tx s4 s5 s6 (by decide), show (fun q => if q = sp + 4 then 1001 else if q = sp + 5 then 1002 else if q = sp + 6 then 1003 else Γ q) t0 = 2 from key24 (sp := sp) e0 s4 s5 s6 (by decide), show (fun q => if q = sp + 4 then 1001 else if q = sp + 5 then 1002 else if q = sp + 6 then 1003 else Γ q) tq = 22 from key24 (sp := sp) eq s4 s5 s6 (by decide), show (fun q => if q = sp + 4 then 1001 else if q = sp + 5 then 1002 else if q = sp + 6 then 1003 else Γ q) va = 20 from key24 (sp := sp) ea s4 s5 s6 (by decide), show (fun q => if q = sp + 4 then 1001 else if q = sp + 5 then 1002 else if q = sp + 6 then 1003 else Γ q) sp = 13 from key24 (sp := sp) es s4 s5 s6 (by decide), show (fun q => if q = sp + 4 then 1001 else if q = sp + 5 then 1002 else if q = sp + 6 then 1003 else Γ q) (sp + 1) = 110 from key24 (sp := sp) s1 s4 s5 s6 (by decide), show (fun q => if q = sp + 4 then 1001 else if q = sp + 5 then 1002 else if q = sp + 6 then 1003 else Γ q) (sp + 2) = 111 from key24 (sp := sp) s2 s4 s5 s6 (by decide), show (fun q => if q = sp + 4 then 1001 else if q = sp + 5 then 1002 else if q = sp + 6 then 1003 else Γ q) (sp + 3) = 112 from key24 (sp := sp) s3 s4 s5 s6 (by decide), show (fun q => if q = sp + 4 then 1001 else if q = sp + 5 then 1002 else if q = sp + 6 then 1003 else Γ q) (sp + 7) = 113 from key24 (sp := sp) s7 s4 s5 s6 (by decide), show (fun q => if q = sp + 4 then 1001 else if q = sp + 5 then 1002 else if q = sp + 6 then 1003 else Γ q) (sp + 4) = 1001 from if_pos rfl, show (fun q => if q = sp + 4 then 1001 else if q = sp + 5 then 1002 else if q = sp + 6 then 1003 else Γ q) (sp + 5) = 1002 from (if_neg (by omega)).trans (if_pos rfl), show (fun q => if q = sp + 4 then 1001 else if q = sp + 5 then 1002 else if q = sp + 6 then 1003 else Γ q) (sp + 6) = 1003 from (if_neg (by omega)).trans ((if_neg (by omega)).trans (if_pos rfl)), show (fun q => if q = sp + 4 then 1001 else if q = sp + 5 then 1002 else if q = sp + 6 then 1003 else Γ q) (sp + 8) = 26 from key24 (sp := sp) s8 s4 s5 s6 (by decide), show (fun q => if q = sp + 4 then 1001 else if q = sp + 5 then 1002 else if q = sp + 6 then 1003 else Γ q) (sp + 11) = 29 from key24 (sp := sp) s11 s4 s5 s6 (by decide)]) (by decide) ?_, fun x u H1 hp hP hz hk => ?_⟩
        · intro k w hw
          match k, hw with
          | 0, hw => cases hw; show Γ x0 ≠ 0; rw [tx]; decide
          | 1, hw => cases hw; show Γ t0 ≠ 0; rw [e0]; decide
          | 2, hw => cases hw; show Γ tq ≠ 0; rw [eq]; decide
          | 3, hw => cases hw; show Γ va ≠ 0; rw [ea]; decide
          | 4, hw => cases hw; show Γ sp ≠ 0; rw [es]; decide
          | 5, hw => cases hw; show Γ (sp + 1) ≠ 0; rw [s1]; decide
          | 6, hw => cases hw; show Γ (sp + 2) ≠ 0; rw [s2]; decide
          | 7, hw => cases hw; show Γ (sp + 3) ≠ 0; rw [s3]; decide
          | 8, hw => cases hw; show Γ (sp + 7) ≠ 0; rw [s7]; decide
          | 9, hw => cases hw; show Γ (sp + 4) ≠ 0; rw [s4]; decide
          | 10, hw => cases hw; show Γ (sp + 5) ≠ 0; rw [s5]; decide
          | 11, hw => cases hw; show Γ (sp + 6) ≠ 0; rw [s6]; decide
          | 12, hw => cases hw; show Γ (sp + 8) ≠ 0; rw [s8]; decide
          | 13, hw => cases hw; show Γ (sp + 11) ≠ 0; rw [s11]; decide
          | k + 14, hw => cases hw
        · obtain ⟨z, rfl, rfl⟩ := hp
          have Y0 := hP 0 _ rfl
          have Y1 := hP 1 _ rfl
          have Y14 := hP 14 _ rfl
          have tg : ([(x0, .inr (11, [.ref t0, .ref va, .ref pa, .ref c3, .ref c4, .ref c5, .ref c6, .ref c7, .ref c8, .ref c9, .ref sp, .int (nI nv), .int (nI np), .int cc])), (t0, .inr (8, [.ref tq, .int (nI n), .int pl])), (tq, .inl (g.2.1 1, 400, .inl (ub fb))), (va, .inl (g.2.1 4, 10, .inr (.inr (.inr (.inr fA))))), (sp, .inr (10, [.int pe, .int lc, .int de, .ref (sp + 1), .ref (sp + 2), .ref (sp + 3), .ref (sp + 4), .ref (sp + 5), .ref (sp + 6), .ref (sp + 7), .ref (sp + 8), .ref (sp + 9), .ref (sp + 10), .ref (sp + 11), .int gl, .ref v15])), (sp + 1, .inl (g.2.1 1, 4, .inl g1)), (sp + 2, .inl (g.2.1 1, 4, .inl g2)), (sp + 3, .inl (g.2.1 1, 4, .inl g3)), (sp + 7, .inl (g.2.1 1, 72, .inl L)), (sp + 4, .inl (g.2.1 1, 7, .inl k6)), (sp + 5, .inl (g.2.1 1, 7, .inl k7)), (sp + 6, .inl (g.2.1 1, 7, .inl k8)), (sp + 8, .inl (g.2.1 1, 175, .inl K)), (sp + 11, .inl (g.2.1 1, 28, .inl k13))] : va_W).map (fun w => Γ w.1) = [1, 2, 22, 20, 13, 110, 111, 112, 113, 24, 24, 24, 26, 29] := by
            show [Γ x0, Γ t0, Γ tq, Γ va, Γ sp, Γ (sp + 1), Γ (sp + 2), Γ (sp + 3), Γ (sp + 7), Γ (sp + 4), Γ (sp + 5), Γ (sp + 6), Γ (sp + 8), Γ (sp + 11)] = _
            rw [tx, e0, eq, ea, es, s1, s2, s3, s7, s4, s5, s6, s8, s11]
          have kp : ∀ {q t : Nat}, Γ q = t → t ≠ 0 → ([1, 2, 22, 20, 13, 110, 111, 112, 113, 24, 24, 24, 26, 29].any fun u => Nat.beq u t) = false → H1[q]? = H[q]? := fun {q t} h h0 h1 => hk q (lt h h0) (nin_tag tg h h1 (lt h h0))
          refine ⟨Or.inl ⟨⟨hnv9, (rdx_F L hn).symm.trans hF⟩, rfl, t0, tq, va, pa, z, va_up fA nv (some sp), fB, FE_at (k := 0) Y0 rfl (by decide) rfl, FE_at (k := 1) Y0 rfl (by decide) rfl, FE_at (k := 2) Y0 rfl (by decide) rfl, FE_at (k := 10) Y0 rfl (by decide) rfl, FE_at (k := 11) Y0 rfl (by decide) rfl, FE_at (k := 12) Y0 rfl (by decide) rfl, FE_at (k := 0) Y1 rfl (by decide) rfl, ?_, hP 2 _ rfl, hP 3 _ rfl, fun i hi => ?_, h11.kept (kp ep (by decide) (by decide)), h12, fe11 Y14⟩, fun q hq => ?_⟩
          · have := FE_at (k := 1) Y1 rfl (by decide) rfl
            rw [ctn_0 (by omega)] at this
            exact this
          · by_cases hi2 : i = nv
            · exact ⟨sp, by rw [hi2]; exact va_up_self _ _ _⟩
            · rw [va_up_ne _ _ hi2]; exact h10 i (by omega)
          · rcases hq with h | h
            · exact kp h (by decide) (by decide)
            · exact kp h (by decide) (by decide)
      · have tg : ([(x0, .inr (11, [.ref t0, .ref va, .ref pa, .ref c3, .ref c4, .ref c5, .ref c6, .ref c7, .ref c8, .ref c9, .ref sp, .int (nI nv), .int (nI np), .int cc])), (t0, .inr (8, [.ref tq, .int (nI n), .int pl])), (tq, .inl (g.2.1 1, 400, .inl (ub fb))), (sp, .inr (10, [.int pe, .int lc, .int de, .ref (sp + 1), .ref (sp + 2), .ref (sp + 3), .ref (sp + 4), .ref (sp + 5), .ref (sp + 6), .ref (sp + 7), .ref (sp + 8), .ref (sp + 9), .ref (sp + 10), .ref (sp + 11), .int gl, .ref v15])), (sp + 1, .inl (g.2.1 1, 4, .inl g1)), (sp + 2, .inl (g.2.1 1, 4, .inl g2)), (sp + 3, .inl (g.2.1 1, 4, .inl g3)), (sp + 7, .inl (g.2.1 1, 72, .inl L))] : va_W).map (fun w => Γ w.1) = [1, 2, 22, 13, 110, 111, 112, 113] := by
          show [Γ x0, Γ t0, Γ tq, Γ sp, Γ (sp + 1), Γ (sp + 2), Γ (sp + 3), Γ (sp + 7)] = _
          rw [tx, e0, eq, es, s1, s2, s3, s7]
        refine ⟨0, 0, _, _, MetI.grow (C_X11_valley0 l g x0 t0 va pa c3 c4 c5 c6 c7 c8 c9 nv np cc tq (ub fb) n pl sp (sp + 1) (sp + 2) (sp + 3) (sp + 4) (sp + 5) (sp + 6) (sp + 7) (sp + 8) (sp + 9) (sp + 10) (sp + 11) v15 pe lc de gl g1 g2 g3 L hn hnv9 hF) (by decide) (Nat.zero_le _) (Nat.zero_le _) _, vaP_cons A0 (vaP_cons A1 (vaP_cons h8 (vaP_cons A3 (vaP_cons B1 (vaP_cons B2 (vaP_cons B3 (vaP_cons B7 vaP_nil))))))), D_tags tg (by decide) (by decide), fun x u H1 hp hP hz hk => ?_⟩
        obtain ⟨rfl, rfl⟩ := hp
        have Y0 := hP 0 _ rfl
        have Y1 := hP 1 _ rfl
        have Y3 := hP 3 _ rfl
        have kp : ∀ {q t : Nat}, Γ q = t → t ≠ 0 → ([1, 2, 22, 13, 110, 111, 112, 113].any fun u => Nat.beq u t) = false → H1[q]? = H[q]? := fun {q t} h h0 h1 => hk q (lt h h0) (nin_tag tg h h1 (lt h h0))
        refine ⟨Or.inr ⟨fun h => hF ((rdx_F L hn).trans h.2), rfl, t0, tq, va, pa, sp, fA, fB, FE_at (k := 0) Y0 rfl (by decide) rfl, FE_at (k := 1) Y0 rfl (by decide) rfl, FE_at (k := 2) Y0 rfl (by decide) rfl, FE_at (k := 10) Y0 rfl (by decide) rfl, FE_at (k := 11) Y0 rfl (by decide) rfl, FE_at (k := 12) Y0 rfl (by decide) rfl, FE_at (k := 0) Y1 rfl (by decide) rfl, FE_at (k := 1) Y1 rfl (by decide) rfl, hP 2 _ rfl, h9.kept (kp ea (by decide) (by decide)), h10, h11.kept (kp ep (by decide) (by decide)), h12, fe11 Y3⟩, fun q hq => ?_⟩
        rcases hq with h | h
        · exact kp h (by decide) (by decide)
        · exact kp h (by decide) (by decide)
end

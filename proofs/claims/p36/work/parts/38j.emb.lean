/-! exact contracts, over heaps that keep to their tags -/
theorem vaP_nil {D : va_G} {cl : List vw_C} {H : Heap} : va_P D cl [] H := fun k r hr => by cases hr
theorem vaP_cons {D : va_G} {cl : List vw_C} {H : Heap} {q : Nat × va_E} {ws : va_W} (h : va_at D cl q H) (hP : va_P D cl ws H) : va_P D cl (q :: ws) H := fun k r hr => by
  cases k with
  | zero => cases hr; exact h
  | succ k => exact hP k r hr
def ndl : List Nat → Bool
  | [] => true
  | a :: r => !(r.any (Nat.beq a)) && ndl r
theorem ndl_inj : ∀ {l : List Nat} {i j x : Nat}, ndl l = true → l[i]? = some x → l[j]? = some x → i = j
  | [], _, _, _, _, h, _ => by cases h
  | a :: r, 0, 0, _, _, _, _ => rfl
  | a :: r, 0, j + 1, x, hn, hi, hj => by
    obtain ⟨h1, -⟩ := Bool.and_eq_true_iff.mp hn
    cases hi
    have : r.any (Nat.beq a) = true := List.any_eq_true.mpr ⟨a, List.mem_of_getElem? hj, Nat.beq_refl a⟩
    rw [this] at h1; cases h1
  | a :: r, i + 1, 0, x, hn, hi, hj => by
    obtain ⟨h1, -⟩ := Bool.and_eq_true_iff.mp hn
    cases hj
    have : r.any (Nat.beq a) = true := List.any_eq_true.mpr ⟨a, List.mem_of_getElem? hi, Nat.beq_refl a⟩
    rw [this] at h1; cases h1
  | a :: r, i + 1, j + 1, x, hn, hi, hj => by
    obtain ⟨-, h2⟩ := Bool.and_eq_true_iff.mp hn
    rw [ndl_inj (l := r) h2 hi hj]
/-- cells of unlike tags are apart -/
theorem D_tags {Γ : Nat → Nat} {ws : va_W} {tl : List Nat} (h : ws.map (fun w => Γ w.1) = tl) (hn : ndl tl = true) (h0 : tl.all (fun t => !(Nat.beq t 0)) = true) : va_D (fun q => Γ q ≠ 0) ws := by
  have key : ∀ (i : Nat) (p : Nat × va_E), ws[i]? = some p → tl[i]? = some (Γ p.1) := fun i p hp => by rw [← h, List.getElem?_map, hp]; rfl
  refine ⟨fun i j p q hp hq e => ?_, fun k q hq => ?_⟩
  · have h1 := key i p hp
    have h2 := key j q hq
    rw [e] at h1
    exact ndl_inj hn h1 h2
  · have h1 := key k q hq
    have h2 := List.all_eq_true.mp h0 _ (List.mem_of_getElem? h1)
    intro e
    rw [e] at h2
    cases h2
/-- an object's fields, before and behind -/
def OS (g : GG) (Γ : Nat → Nat) (mods : List (Nat × Nat)) (t : Nat) (bs : List AV) (fs fs' : List Value) : Prop := VR g Γ bs fs' ∧ fs'.length = fs.length ∧ ∀ (k : Nat) (v : Value), md mods t k = false → fs[k]? = some v → fs'[k]? = some v
theorem OS.refl {g : GG} {Γ : Nat → Nat} {mods : List (Nat × Nat)} {t : Nat} {bs : List AV} {fs : List Value} (h : VR g Γ bs fs) : OS g Γ mods t bs fs fs := ⟨h, rfl, fun _ _ _ h => h⟩
theorem OS.put {g : GG} {Γ : Nat → Nat} {mods : List (Nat × Nat)} {t k : Nat} {bs : List AV} {fs fs' : List Value} {a : AV} {v : Value} (h : OS g Γ mods t bs fs fs') (hk : bs[k]? = some a) (hv : avi g Γ a v) (hm : md mods t k = true) : OS g Γ mods t bs fs (fs'.set k v) := by
  refine ⟨VR.put hv h.1 hk, by rw [List.length_set]; exact h.2.1, fun j w hj hw => ?_⟩
  have hne : k ≠ j := fun e => by rw [e, hj] at hm; cases hm
  rw [List.getElem?_set_ne hne]
  exact h.2.2 j w hj hw
def CE (g : GG) (ts : TS) (Γ : Nat → Nat) (mods : List (Nat × Nat)) (w w' : Nat × va_E) : Prop := w'.1 = w.1 ∧ match w.2, w'.2 with
  | .inr (ci, fs), .inr (ci', fs') => ci' = ci ∧ ∃ bs, ts.1 (Γ w.1) = .inl (ci, bs) ∧ OS g Γ mods (Γ w.1) bs fs fs' ∧ ∃ r, CLS[ci]? = some r ∧ r.2.2 ≤ fs.length
  | .inl (c, x), .inl (c', x') => c' = c ∧ ∃ kd n a, c = g.2.1 kd ∧ ts.1 (Γ w.1) = .inr (kd, n, a) ∧ x'.1 = n ∧ AR g Γ kd n a x'.2 ∧ (md mods (Γ w.1) 0 = true ∨ x' = x)
  | _, _ => False
def CEL (g : GG) (ts : TS) (Γ : Nat → Nat) (mods : List (Nat × Nat)) : va_W → va_W → Prop
  | [], [] => True
  | w :: r, w' :: r' => CE g ts Γ mods w w' ∧ CEL g ts Γ mods r r'
  | _, _ => False
theorem CEL.at {g : GG} {ts : TS} {Γ : Nat → Nat} {mods : List (Nat × Nat)} : ∀ {ws u : va_W} {k : Nat} {w : Nat × va_E}, CEL g ts Γ mods ws u → ws[k]? = some w → ∃ w', u[k]? = some w' ∧ CE g ts Γ mods w w'
  | [], [], _, _, _, h => by cases h
  | w :: r, w' :: r', 0, x, h, e => by cases e; exact ⟨w', rfl, h.1⟩
  | w :: r, w' :: r', k + 1, x, h, e => by
    obtain ⟨w2, h1, h2⟩ := CEL.at (k := k) h.2 e
    exact ⟨w2, h1, h2⟩
  | [], _ :: _, _, _, h, _ => h.elim
  | _ :: _, [], _, _, h, _ => h.elim
theorem SQ_of {g : GG} {ts : TS} {Γ : Nat → Nat} {sp : SPEC} {As : List Value} {a : Array Value} {U t : State} {o : Outcome} {ws u : va_W} {v : Option Value} (hT : HT g ts Γ U.heap) (hP0 : va_P g.1 CLS ws U.heap) (hP : va_P g.1 CLS u t.heap) (hD : va_D (fun q => Γ q ≠ 0) ws) (hF : va_F (va_A ws U.heap.size) U t) (hz : t.heap.size = U.heap.size) (hC : CEL g ts Γ sp.2.2.2.2.1 ws u) (hinv : Un g ts Γ sp.2.2.2.2.1 U.heap t.heap → INV g ts Γ t.heap) (ho : o = .returned v) (hro : RO g Γ sp As v) : SQ g ts Γ sp As a U o t := by
  have hcell : ∀ (k q : Nat) (e : va_E), ws[k]? = some (q, e) → ∃ e' : va_E, va_at g.1 CLS (q, e') t.heap ∧ va_at g.1 CLS (q, e) U.heap ∧ CE g ts Γ sp.2.2.2.2.1 (q, e) (q, e') := fun k q e hk => by
    obtain ⟨⟨q', e'⟩, h1, h2⟩ := hC.at hk
    have e9 : q' = q := h2.1
    subst e9
    exact ⟨e', hP k _ h1, hP0 k _ hk, h2⟩
  have hun : Un g ts Γ sp.2.2.2.2.1 U.heap t.heap := fun q hq => by
    by_cases h : ∃ (k : Nat) (e : va_E), ws[k]? = some (q, e)
    · obtain ⟨k, e, hk⟩ := h
      obtain ⟨e', g1, g2, -, g4⟩ := hcell k q e hk
      unfold Un1
      match e, e', g1, g2, g4 with
      | .inr (ci, fs), .inr (ci', fs'), g1, g2, ⟨ec, bs, b1, b2, r, b3, b4⟩ =>
        have ec : ci' = ci := ec
        subst ec
        have b1 : ts.1 (Γ q) = .inl (ci', bs) := b1
        rw [b1]
        intro k2 w hk2 hFE
        obtain ⟨us, r2, c1, c2, c3, c4⟩ := hFE
        have er : r2 = r := Option.some.inj (c2.symm.trans b3)
        subst er
        have b4 : r2.2.2 ≤ fs.length := b4
        have hlt : k2 < fs.length := by omega
        have ew := FE_fun (⟨us, r2, c1, c2, c3, c4⟩ : FE g q ci' k2 U.heap w) (⟨fs, r2, g2, b3, c3, List.getElem?_eq_getElem hlt⟩ : FE g q ci' k2 U.heap fs[k2])
        subst ew
        exact ⟨fs', r2, g1, b3, c3, b2.2.2 k2 _ hk2 (List.getElem?_eq_getElem hlt)⟩
      | .inl (c, x), .inl (c', x'), g1, g2, ⟨ec, kd, n, a9, b1, b2, b3, b4, b5⟩ =>
        have ec : c' = c := ec
        subst ec
        have b2 : ts.1 (Γ q) = .inr (kd, n, a9) := b2
        rw [b2]
        intro hm
        rcases b5 with b5 | b5
        · have b5 : md sp.2.2.2.2.1 (Γ q) 0 = true := b5
          rw [b5] at hm; cases hm
        · have b5 : x' = x := b5
          subst b5
          exact (show t.heap[q]? = some _ from g1).trans (show U.heap[q]? = some _ from g2).symm
      | .inr _, .inl _, _, _, g4 => exact g4.elim
      | .inl _, .inr _, _, _, g4 => exact g4.elim
    · refine Un1.same ?_
      have hlt := (hT.1 q hq).lt
      refine hF.2 q hlt fun hA => ?_
      rcases hA with ⟨k, e, hk⟩ | hA
      · exact h ⟨k, e, hk⟩
      · omega
  refine ⟨v, ho, hro, HT_upd hT hz (fun q h1 h2 => hF.2 q h1 h2) (fun k q e hk => ?_) (hinv hun), hz, out_same hz (fun q h1 h2 => hF.2 q h1 h2) (fun k q e hk => hD.2 k _ hk), hun⟩
  obtain ⟨e', g1, g2, -, g4⟩ := hcell k q e hk
  unfold cok
  match e, e', g1, g2, g4 with
  | .inr (ci, fs), .inr (ci', fs'), g1, g2, ⟨ec, bs, b1, b2, r, b3, b4⟩ =>
    have ec : ci' = ci := ec
    subst ec
    have b1 : ts.1 (Γ q) = .inl (ci', bs) := b1
    rw [b1]
    exact ⟨fs', g1, b2.1⟩
  | .inl (c, x), .inl (c', x'), g1, g2, ⟨ec, kd, n, a9, b1, b2, b3, b4, b5⟩ =>
    have ec : c' = c := ec
    subst ec
    have b2 : ts.1 (Γ q) = .inr (kd, n, a9) := b2
    rw [b2]
    have b1 : c' = g.2.1 kd := b1
    exact ⟨x', by rw [← b1]; exact g1, b3, b4⟩
  | .inr _, .inl _, _, _, g4 => exact g4.elim
  | .inl _, .inr _, _, _, g4 => exact g4.elim
theorem vr_cons {g : GG} {Γ : Nat → Nat} {a : AV} {r : List AV} : ∀ {vs : List Value}, VR g Γ (a :: r) vs → ∃ v s, vs = v :: s ∧ avi g Γ a v ∧ VR g Γ r s
  | v :: s, h => ⟨v, s, rfl, h.1, h.2⟩
  | [], h => h.elim
theorem vr_nil {g : GG} {Γ : Nat → Nat} : ∀ {vs : List Value}, VR g Γ [] vs → vs = []
  | [], _ => rfl
  | _ :: _, h => h.elim
/-- an array of counts, by its tag -/
theorem ar_N {g : GG} {Γ : Nat → Nat} {k n lo hi : Nat} {r : Nat → Int32} (hk : k = 0 ∨ k = 1 ∨ k = 3) (hh : hi < 2 ^ 31) (h : bN_ r n lo hi) : AR g Γ k n (0, .ofNat lo, .ofNat hi) (.inl r) := ⟨hk, fun j hj => by
  obtain ⟨x, h1, h2, h3⟩ := h j hj
  rw [h3]
  exact avi_nI h1 h2 hh⟩
theorem bN_of {g : GG} {Γ : Nat → Nat} {n lo hi : Nat} {r : Nat → Int32} (h : ∀ j : Nat, j < n → avi g Γ (0, .ofNat lo, .ofNat hi) (.int (r j))) : bN_ r n lo hi := fun j hj => by
  obtain ⟨k, h1, h2, h3⟩ := avi_nn (h j hj)
  exact ⟨k, h2, h3, h1⟩
theorem ar_top {g : GG} {Γ : Nat → Nat} {k n : Nat} {r : Nat → Int32} (hk : k = 0 ∨ k = 1 ∨ k = 3) : AR g Γ k n itop (.inl r) := ⟨hk, fun j _ => avi_top _⟩
theorem av_lh {g : GG} {Γ : Nat → Nat} {x : Int32} {lo hi : Int} (h1 : lo ≤ x.toInt) (h2 : x.toInt ≤ hi) : avi g Γ (0, lo, hi) (.int x) := ⟨rfl, h1, h2⟩
theorem f400_av {g : GG} {Γ : Nat → Nat} {x : Int32} (h : f400 x) : avi g Γ (0, .negSucc 0, .ofNat 400) (.int x) := by
  rcases h with rfl | ⟨k, hk, rfl⟩
  · exact ⟨rfl, by decide, by decide⟩
  · exact avle_ok (a := (0, .ofNat 0, .ofNat 400)) (by decide) (avi_nI (by omega) hk (by decide))

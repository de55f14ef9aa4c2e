/-! trees: by breadth, as the class goes -/
def CR (nb : Nat → Nat → Prop) (p : Nat) (tm ch : Nat → Int32) : Nat → Nat → Int32 → Prop
  | 0, _, _ => False
  | f + 1, on, ab => (∀ y : Nat, y < 32 → (bt (ch on) y = true ↔ chd nb p on ab y)) ∧ tm on = F_X0_timeOf tm ch on ∧ ∀ o : Nat, chd nb p on ab o → CR nb p tm ch f o (nI on)
theorem te {nb : Nat → Nat → Prop} {p : Nat} {B M T tm ch : Nat → Int32} (hp : p ≤ 7) : ∀ (f : Nat), f ≤ 20 → ∀ (on : Nat) (ab : Int32), RT nb p B M T f on ab → CR nb p tm ch f on ab → tm on = T on ∧ ∃ (n : Nat) (x : Nat → Nat), n ≤ 6 ∧ M on = nI n ∧ (∀ k : Nat, k < n → B (7 * on + k) = nI (x k) ∧ x k < 7) ∧ SL tm (ch on) (crd n x)
  | 0, _, _, _, h, _ => h.elim
  | f + 1, hf, on, ab, r, c_ => by
    obtain ⟨⟨n, x, ⟨o1, o2, o3, o4⟩, r2, r3, r4⟩, r5, r6⟩ := r
    obtain ⟨c1, c2, c3⟩ := c_
    have et : ∀ o : Nat, chd nb p on ab o → tm o = T o := fun o ho => (te hp f (by omega) o (nI on) (r6 o ho) (c3 o ho)).1
    have hsl : SL tm (ch on) (crd n x) := by
      refine ⟨fun y hy => (c1 y hy).trans ⟨fun q => mem_crd.mpr (o3 y q), fun q => ?_⟩, fun y hy => ?_, ?_, fun y hy => ?_⟩
      · obtain ⟨k, hk, e⟩ := mem_crd.mp q
        rw [← e]; exact o2 k hk
      · obtain ⟨k, hk, e⟩ := mem_crd.mp hy
        have := (o2 k hk).1
        omega
      · refine List.pairwise_map.mpr (List.Pairwise.imp_of_mem (@fun a b ha hb hlt => ?_) List.pairwise_lt_range)
        have hb := List.mem_range.mp hb
        have := o4 _ _ hlt hb
        unfold bfr tvl at this ⊢
        rw [et _ (o2 a (by omega)), et _ (o2 b hb)]
        exact this
      · obtain ⟨k, hk, e⟩ := mem_crd.mp hy
        rw [← e, et _ (o2 k hk)]
        obtain ⟨z1, z2⟩ := (r6 _ (o2 k hk)).tm
        exact ⟨z1, by omega⟩
    refine ⟨?_, n, x, o1, r2, fun k hk => ⟨r3 k hk, by have := (o2 k hk).1; omega⟩, hsl⟩
    rw [c2, r4]
    unfold F_X0_timeOf
    rw [tO_ok (6 + 1) 0 _ _ _ hsl (by rw [crd_len]; omega) (by rw [crd_len]; omega)]
    exact mxl_cg _ _ _ fun y hy => by
      obtain ⟨k, hk, e⟩ := mem_crd.mp hy
      rw [← e]; exact et _ (o2 k hk)
/-- one that stands below -/
def ND (nb : Nat → Nat → Prop) (p : Nat) : Nat → Nat → Int32 → Nat → Prop
  | 0, _, _, _ => False
  | f + 1, on, ab, z => z = on ∨ ∃ o : Nat, chd nb p on ab o ∧ ND nb p f o (nI on) z
theorem TRS.nd_ {nb : Nat → Nat → Prop} {p : Nat} : ∀ (f on : Nat) (ab : Int32) (W : Nat → Prop), TRS nb p f on ab W → ∀ z : Nat, W z → ND nb p f on ab z
  | 0, _, _, _, h, _, _ => h.elim
  | f + 1, on, ab, W, h, z, hz => by
    obtain ⟨h1, h2, S, h3, h4⟩ := h
    rcases h4 z hz with e | ⟨o, ho, hs⟩
    · exact Or.inl e
    · exact Or.inr ⟨o, ho, TRS.nd_ f o (nI on) (S o) (h3 o ho).1 z hs⟩
theorem TRS.nd {nb : Nat → Nat → Prop} {p f on : Nat} {ab : Int32} {W : Nat → Prop} (h : TRS nb p f on ab W) (z : Nat) (hz : W z) : ND nb p f on ab z := TRS.nd_ f on ab W h z hz
theorem tz {nb : Nat → Nat → Prop} {p : Nat} {B M T tm ch : Nat → Int32} (hp : p ≤ 7) : ∀ (f : Nat), f ≤ 20 → ∀ (on : Nat) (ab : Int32) (z : Nat), RT nb p B M T f on ab → CR nb p tm ch f on ab → ND nb p f on ab z → tm z = T z ∧ ∃ (n : Nat) (x : Nat → Nat), n ≤ 6 ∧ M z = nI n ∧ (∀ k : Nat, k < n → B (7 * z + k) = nI (x k) ∧ x k < 7) ∧ SL tm (ch z) (crd n x)
  | 0, _, _, _, _, h, _, _ => h.elim
  | f + 1, hf, on, ab, z, r, c_, h => by
    rcases h with rfl | ⟨o, ho, hz⟩
    · exact te hp (f + 1) hf _ ab r c_
    · exact tz hp f (by omega) o (nI on) z (r.2.2 o ho) (c_.2.2 o ho) hz
theorem blw_at : ∀ (l : List Nat) (j k : Nat), j + k < 2 ^ 31 → j + l.length < 2 ^ 31 → blw j (nI (j + k)) l = match l[k]? with
    | some x => nI x
    | none => -1
  | [], _, _, _, _ => rfl
  | x :: l, j, 0, h1, h2 => by
    rw [blw, if_pos (show nI j = nI (j + 0) from rfl)]; rfl
  | x :: l, j, k + 1, h1, h2 => by
    have h2' : j + (l.length + 1) < 2 ^ 31 := h2
    rw [blw, if_neg (show ¬ nI j = nI (j + (k + 1)) from fun q => by have := (nI_eq (a := j) (b := j + (k + 1)) (by omega) (by omega)).mp q; omega), show j + (k + 1) = j + 1 + k by omega, blw_at l (j + 1) k (by omega) (by omega)]
    rfl
theorem crd_at {n k : Nat} {x : Nat → Nat} : (crd n x)[k]? = if k < n then some (x k) else none := by
  by_cases h : k < n
  · rw [if_pos h, List.getElem?_map, List.getElem?_range h]; rfl
  · rw [if_neg h, List.getElem?_eq_none (by rw [crd_len]; omega)]
/-- n of a set -/
theorem inj_le {n p : Nat} {x : Nat → Nat} (h1 : ∀ k : Nat, k < n → x k < p) (h2 : ∀ i k : Nat, i < k → k < n → ¬ x i = x k) : n ≤ p :=
  Nat.le_trans (ct2_inj (Lo := fun _ => 0) (v := 0) (lc := p) (f := x) (fun i hi => ⟨h1 i hi, rfl⟩) h2) (ct2_le _ _ _)
/-- the order so far: whom each comes from, what stands below it; from j on not looked at yet -/
def GX (nb : Nat → Nat → Prop) (p j n : Nat) (x : Nat → Nat) (pa : Nat → Int32) (fu : Nat → Nat) (W : Nat → Nat → Prop) : Prop :=
  (j ≤ n ∧ 1 ≤ n) ∧ (∀ k : Nat, k < n → x k < p) ∧ (∀ i k : Nat, i < k → k < n → ¬ x i = x k) ∧ (∀ k : Nat, k < n → TRS nb p (fu k) (x k) (pa k) (W k)) ∧ (∀ k : Nat, j ≤ k → k < n → ∀ m : Nat, m < n → W k (x m) → m = k) ∧ (∀ a b : Nat, j ≤ a → a < n → j ≤ b → b < n → ¬ a = b → ∀ y : Nat, W a y → ¬ W b y) ∧ ∀ k : Nat, k < n → pa k = -1 ∨ ∃ m : Nat, m < k ∧ pa k = nI (x m)
def GC (nb : Nat → Nat → Prop) (p j n : Nat) (x : Nat → Nat) (pa : Nat → Int32) (fu : Nat → Nat) (ch : Nat → Int32) : Prop :=
  ∀ k : Nat, k < j → (∀ y : Nat, y < 32 → (bt (ch (x k)) y = true ↔ chd nb p (x k) (pa k) y)) ∧ ∀ o : Nat, chd nb p (x k) (pa k) o → ∃ m : Nat, k < m ∧ m < n ∧ x m = o ∧ pa m = nI (x k) ∧ fu m + 1 = fu k
/-- those below one are they whom nobody has met yet -/
theorem gx_new {nb : Nat → Nat → Prop} {p j n : Nat} {x : Nat → Nat} {pa : Nat → Int32} {fu : Nat → Nat} {W : Nat → Nat → Prop} (hp : p ≤ 7) (h : GX nb p j n x pa fu W) (hj : j < n) {y : Nat} (hy : y < p) : chd nb p (x j) (pa j) y ↔ nb (x j) y ∧ ¬ ∃ k : Nat, k < n ∧ x k = y := by
  obtain ⟨-, h2, h3, h4, h5, -, h7⟩ := h
  constructor
  · intro hc
    refine ⟨hc.2.2.2, fun ⟨k, hk, e⟩ => ?_⟩
    have t := h4 j hj
    cases ef : fu j with
    | zero => rw [ef] at t; exact t.elim
    | succ f =>
      rw [ef] at t
      obtain ⟨t1, t2, S, t3, -⟩ := t
      obtain ⟨u1, u2, u3, -⟩ := t3 y hc
      have hk2 : k = j := h5 j (Nat.le_refl _) hj k hk (by rw [e]; exact u3 y u1.me.2)
      subst hk2
      exact hc.2.2.1 e.symm
  · rintro ⟨a, b⟩
    refine ⟨hy, fun q => ?_, fun q => b ⟨j, hj, q.symm⟩, a⟩
    rcases h7 j hj with e | ⟨m, hm, e⟩
    · exact m1_ne (k := y) (by omega) (e.symm.trans q.symm)
    · have h8 := h2 m (by omega)
      have : y = x m := (nI_eq (a := y) (b := x m) (by omega) (by omega)).mp (q.trans e)
      exact b ⟨m, by omega, this.symm⟩
/-- those below one, one behind another, behind the n that stand -/
theorem in_ok {nb : Nat → Nat → Prop} {p n on lc j1 : Nat} {ab x3 : Int32} {L fyh fyo od : Nat → Int32} {x : Nat → Nat} (hp : p ≤ 7) (hs : ∀ y : Nat, y < 32 → (bt (nbs L (nI (tN (fyo j1))) lc &&& (x3 ^^^ (-1 : Int32))) y = true ↔ chd nb p on ab y)) (hod : ∀ k : Nat, k < n → od k = nI (x k)) (hb : ∀ (r : Nat) (z : Nat → Nat), (∀ m : Nat, m < r → chd nb p on ab (z m)) → (∀ a b : Nat, a < b → b < r → z a < z b) → n + r ≤ p) : ∀ q : Nat, q ≤ p → ∃ (r : Nat) (z : Nat → Nat) (od' : Nat → Int32), L3_X0_growTree lc L j1 x3 fyh fyo (nI n) od q = (nI (n + r), od') ∧ (∀ m : Nat, m < r → chd nb p on ab (z m) ∧ z m < q) ∧ (∀ a b : Nat, a < b → b < r → z a < z b) ∧ (∀ o : Nat, o < q → chd nb p on ab o → ∃ m : Nat, m < r ∧ z m = o) ∧ (∀ k : Nat, k < n → od' k = nI (x k)) ∧ ∀ m : Nat, m < r → od' (n + m) = nI (z m)
  | 0, _ => ⟨0, fun _ => 0, od, rfl, fun m hm => absurd hm (Nat.not_lt_zero _), fun a b _ hb => absurd hb (Nat.not_lt_zero _), fun o ho => absurd ho (Nat.not_lt_zero _), hod, fun m hm => absurd hm (Nat.not_lt_zero _)⟩
  | q + 1, hq => by
    obtain ⟨r, z, od', e, z1, z2, z3, z4, z5⟩ := in_ok (lc := lc) (fyh := fyh) hp hs hod hb q (by omega)
    have hnr := hb r z (fun m hm => (z1 m hm).1) z2
    have e2 : L3_X0_growTree lc L j1 x3 fyh fyo (nI n) od (q + 1) = L3_X0_growTrees lc L j1 x3 fyh fyo q (L3_X0_growTree lc L j1 x3 fyh fyo (nI n) od q).1 (L3_X0_growTree lc L j1 x3 fyh fyo (nI n) od q).2 := rfl
    rw [e2, e]
    unfold L3_X0_growTrees
    dsimp only
    rw [upd_eq]
    cases b : bt (nbs L (nI (tN (fyo j1))) lc &&& (x3 ^^^ (-1 : Int32))) q with
    | false =>
      rw [if_pos ((hvb_0 (by omega)).mpr b)]
      refine ⟨r, z, od', rfl, fun m hm => ⟨(z1 m hm).1, by have := (z1 m hm).2; omega⟩, z2, fun o ho hc => ?_, z4, z5⟩
      by_cases eo : o = q
      · subst eo
        rw [(hs o (by omega)).mpr hc] at b; cases b
      · exact z3 o (by omega) hc
    | true =>
      have hc := (hs q (by omega)).mp b
      have nbq : ¬ hasv (nbs L (nI (tN (fyo j1))) lc &&& (x3 ^^^ (-1 : Int32))) (nI q) = 0 := fun w => by rw [(hvb_0 (by omega)).mp w] at b; cases b
      have hnr2 := hb (r + 1) (fun m => if m < r then z m else q) (fun m hm => by
        try dsimp only
        by_cases w : m < r
        · rw [if_pos w]; exact (z1 m w).1
        · rw [if_neg w]; exact hc) (fun a b' hab hb' => by
        try dsimp only
        rw [if_pos (by omega : a < r)]
        by_cases w : b' < r
        · rw [if_pos w]; exact z2 a b' hab w
        · rw [if_neg w]; exact (z1 a (by omega)).2)
      rw [if_neg nbq, tN_nI (by omega), if_neg (show ¬ (7 : Int32) ≤ nI (n + r) from fun w => by have := (nI_leI (a := 7) (b := n + r) (by omega) (by omega)).mp w; omega)]
      refine ⟨r + 1, fun m => if m < r then z m else q, upd od' (n + r) (nI q), by rw [show nI (n + r) + 1 = nI (n + (r + 1)) from nI_add (n + r) 1], fun m hm => ?_, fun a b' hab hb' => ?_, fun o ho hco => ?_, fun k hk => (upd_ne (by omega)).trans (z4 k hk), fun m hm => ?_⟩
      · dsimp only
        by_cases w : m < r
        · rw [if_pos w]; exact ⟨(z1 m w).1, by have := (z1 m w).2; omega⟩
        · rw [if_neg w]; exact ⟨hc, by omega⟩
      · dsimp only
        rw [if_pos (by omega : a < r)]
        by_cases w : b' < r
        · rw [if_pos w]; exact z2 a b' hab w
        · rw [if_neg w]; exact (z1 a (by omega)).2
      · by_cases eo : o = q
        · exact ⟨r, by omega, by dsimp only; rw [if_neg (Nat.lt_irrefl _), eo]⟩
        · obtain ⟨m, hm, em⟩ := z3 o (by omega) hco
          exact ⟨m, by omega, by dsimp only; rw [if_pos hm]; exact em⟩
      · dsimp only
        by_cases w : m < r
        · rw [if_pos w, upd_ne (by omega)]; exact z5 m w
        · rw [if_neg w, show m = r by omega, upd_eq]
/-- one of the order is looked at -/
theorem gx_step {nb : Nat → Nat → Prop} {p j n r : Nat} {x z : Nat → Nat} {pa : Nat → Int32} {fu : Nat → Nat} {W : Nat → Nat → Prop} {ch : Nat → Int32} {s : Int32} (hp : p ≤ 7) (h : GX nb p j n x pa fu W) (hc : GC nb p j n x pa fu ch) (hj : j < n) (hs : ∀ y : Nat, y < 32 → (bt s y = true ↔ chd nb p (x j) (pa j) y))
    (z1 : ∀ m : Nat, m < r → chd nb p (x j) (pa j) (z m)) (z2 : ∀ a b : Nat, a < b → b < r → z a < z b) (z3 : ∀ o : Nat, chd nb p (x j) (pa j) o → ∃ m : Nat, m < r ∧ z m = o) :
    ∃ (x' : Nat → Nat) (pa' : Nat → Int32) (fu' : Nat → Nat) (W' : Nat → Nat → Prop), GX nb p (j + 1) (n + r) x' pa' fu' W' ∧ GC nb p (j + 1) (n + r) x' pa' fu' (upd ch (x j) s) ∧ (∀ k : Nat, k < n → x' k = x k ∧ pa' k = pa k ∧ fu' k = fu k) ∧ ∀ m : Nat, m < r → x' (n + m) = z m := by
  have hnew := fun (y : Nat) (hy : y < p) => gx_new hp h hj hy
  obtain ⟨⟨h0, h1⟩, h2, h3, h4, h5, h6, h7⟩ := h
  have t := h4 j hj
  cases ef : fu j with
  | zero => rw [ef] at t; exact t.elim
  | succ f =>
  rw [ef] at t
  obtain ⟨t1, t2, S, t3, -⟩ := t
  have zn : ∀ m k : Nat, m < r → k < n → ¬ z m = x k := fun m k hm hk e => ((hnew (z m) (z1 m hm).1).mp (z1 m hm)).2 ⟨k, hk, e.symm⟩
  have zi : ∀ a b : Nat, a < r → b < r → z a = z b → a = b := fun a b ha hb e => by
    rcases Nat.lt_trichotomy a b with q | q | q
    · have := z2 a b q hb; omega
    · exact q
    · have := z2 b a q ha; omega
  have sp : ∀ k : Nat, k < n + r → k < n ∨ ∃ m : Nat, m < r ∧ k = n + m := fun k hk => by
    by_cases q : k < n
    · exact Or.inl q
    · exact Or.inr ⟨k - n, by omega, by omega⟩
  refine ⟨fun k => if k < n then x k else z (k - n), fun k => if k < n then pa k else nI (x j), fun k => if k < n then fu k else f, fun k => if k < n then W k else S (z (k - n)), ⟨⟨by omega, by omega⟩, fun k hk => ?_, fun i k hik hk => ?_, fun k hk => ?_, fun k hjk hk m hm hw => ?_, fun a b ha1 ha2 hb1 hb2 hab y hya hyb => ?_, fun k hk => ?_⟩, fun k hk => ?_, fun k hk => ⟨if_pos hk, if_pos hk, if_pos hk⟩, fun m hm => ?_⟩
  · dsimp only
    rcases sp k hk with q | ⟨m, hm, rfl⟩
    · rw [if_pos q]; exact h2 k q
    · rw [if_neg (by omega), Nat.add_sub_cancel_left]; exact (z1 m hm).1
  · dsimp only
    rcases sp i (by omega) with q | ⟨m, hm, rfl⟩
    · rw [if_pos q]
      rcases sp k hk with q2 | ⟨m2, hm2, rfl⟩
      · rw [if_pos q2]; exact h3 i k hik q2
      · rw [if_neg (by omega), Nat.add_sub_cancel_left]; exact fun e => zn m2 i hm2 q e.symm
    · obtain ⟨m2, hm2, rfl⟩ := (sp k hk).resolve_left (by omega)
      rw [if_neg (by omega), if_neg (by omega), Nat.add_sub_cancel_left, Nat.add_sub_cancel_left]
      exact fun e => by have := zi m m2 hm hm2 e; omega
  · dsimp only
    rcases sp k hk with q | ⟨m, hm, rfl⟩
    · rw [if_pos q, if_pos q, if_pos q, if_pos q]; exact h4 k q
    · rw [if_neg (by omega), if_neg (by omega), if_neg (by omega), if_neg (by omega), Nat.add_sub_cancel_left]; exact (t3 _ (z1 m hm)).1
  · dsimp only at hw
    rcases sp k hk with q | ⟨m1, hm1, rfl⟩
    · rw [if_pos q] at hw
      rcases sp m hm with q2 | ⟨m2, hm2, rfl⟩
      · rw [if_pos q2] at hw
        exact h5 k (by omega) q m q2 hw
      · rw [if_neg (by omega), Nat.add_sub_cancel_left] at hw
        exact absurd hw (h6 j k (Nat.le_refl _) hj (by omega) q (by omega) _ ((t3 _ (z1 m2 hm2)).2.2.1 _ (t3 _ (z1 m2 hm2)).1.me.2))
    · rw [if_neg (by omega), Nat.add_sub_cancel_left] at hw
      have hwj := (t3 _ (z1 m1 hm1)).2.2.1 _ hw
      rcases sp m hm with q2 | ⟨m2, hm2, rfl⟩
      · rw [if_pos q2] at hwj hw
        have := h5 j (Nat.le_refl _) hj m q2 hwj
        subst this
        exact absurd hw (t3 _ (z1 m1 hm1)).2.1
      · rw [if_neg (by omega), Nat.add_sub_cancel_left] at hw
        by_cases e : z m2 = z m1
        · have := zi m2 m1 hm2 hm1 e; omega
        · exact absurd hw ((t3 _ (z1 m2 hm2)).2.2.2 _ (z1 m1 hm1) (fun q => e q.symm) _ (t3 _ (z1 m2 hm2)).1.me.2)
  · dsimp only at hya hyb
    rcases sp a ha2 with q | ⟨m1, hm1, rfl⟩
    · rw [if_pos q] at hya
      rcases sp b hb2 with q2 | ⟨m2, hm2, rfl⟩
      · rw [if_pos q2] at hyb
        exact h6 a b (by omega) q (by omega) q2 hab y hya hyb
      · rw [if_neg (by omega), Nat.add_sub_cancel_left] at hyb
        exact h6 j a (Nat.le_refl _) hj (by omega) q (by omega) y ((t3 _ (z1 m2 hm2)).2.2.1 y hyb) hya
    · rw [if_neg (by omega), Nat.add_sub_cancel_left] at hya
      rcases sp b hb2 with q2 | ⟨m2, hm2, rfl⟩
      · rw [if_pos q2] at hyb
        exact h6 j b (Nat.le_refl _) hj (by omega) q2 (by omega) y ((t3 _ (z1 m1 hm1)).2.2.1 y hya) hyb
      · rw [if_neg (by omega), Nat.add_sub_cancel_left] at hyb
        exact (t3 _ (z1 m1 hm1)).2.2.2 _ (z1 m2 hm2) (fun e => by have := zi m2 m1 hm2 hm1 e; omega) y hya hyb
  · dsimp only
    rcases sp k hk with q | ⟨m, hm, rfl⟩
    · rw [if_pos q]
      rcases h7 k q with e | ⟨m, hm, e⟩
      · exact Or.inl e
      · exact Or.inr ⟨m, hm, by rw [if_pos (by omega)]; exact e⟩
    · rw [if_neg (by omega)]
      exact Or.inr ⟨j, by omega, by rw [if_pos hj]⟩
  · dsimp only
    rw [if_pos (by omega : k < n), if_pos (by omega : k < n), if_pos (by omega : k < n)]
    by_cases e : k = j
    · subst e
      refine ⟨fun y hy => by rw [upd_eq]; exact hs y hy, fun o ho => ?_⟩
      obtain ⟨m, hm, em⟩ := z3 o ho
      refine ⟨n + m, by omega, by omega, ?_, ?_, ?_⟩
      · rw [if_neg (by omega), Nat.add_sub_cancel_left]; exact em
      · rw [if_neg (by omega)]
      · rw [if_neg (by omega), ef]
    · obtain ⟨g1, g2⟩ := hc k (by omega)
      refine ⟨fun y hy => by rw [upd_ne (h3 k j (by omega) hj)]; exact g1 y hy, fun o ho => ?_⟩
      obtain ⟨m, m1, m2, m3, m4, m5⟩ := g2 o ho
      exact ⟨m, m1, by omega, by rw [if_pos m2]; exact m3, by rw [if_pos m2]; exact m4, by rw [if_pos m2]; exact m5⟩
  · dsimp only
    rw [if_neg (by omega), Nat.add_sub_cancel_left]
/-- who is looked at by breadth, to the end -/
theorem go_ok {nb : Nat → Nat → Prop} {p lc fo F0 : Nat} {L tm : Nat → Int32} (hp : p ≤ 7) (hnb : ∀ a : Nat, a < p → ∀ y : Nat, y < 32 → (bt (nbs L (nI a) lc) y = true ↔ y < p ∧ nb a y)) : ∀ (m j n : Nat) (x : Nat → Nat) (pa : Nat → Int32) (fu : Nat → Nat) (W : Nat → Nat → Prop) (met : Int32) (ch od : Nat → Int32), GX nb p j n x pa fu W → GC nb p j n x pa fu ch → (∀ y : Nat, y < 32 → (bt met y = true ↔ ∃ k : Nat, k < n ∧ x k = y)) → (∀ k : Nat, k < n → od k = nI (x k)) → 7 < m + j → x 0 = fo → pa 0 = -1 → fu 0 = F0 → ∃ (n' : Nat) (x' : Nat → Nat) (pa' : Nat → Int32) (fu' : Nat → Nat) (W' : Nat → Nat → Prop) (ch' od' : Nat → Int32), L1_X0_growTree p lc L tm m j (nI n) met ch od = (1, L2_X0_growTree (nI n') ch' od' tm (tN (nI n')), ch', od') ∧ GX nb p n' n' x' pa' fu' W' ∧ GC nb p n' n' x' pa' fu' ch' ∧ (∀ k : Nat, k < n' → od' k = nI (x' k)) ∧ x' 0 = fo ∧ pa' 0 = -1 ∧ fu' 0 = F0
  | 0, j, n, x, pa, fu, W, met, ch, od, h, _, _, _, hm, _, _, _ => by
    have := inj_le h.2.1 h.2.2.1
    have := h.1.1
    omega
  | m + 1, j, n, x, pa, fu, W, met, ch, od, h, hc, hmet, hod, hm, e0, e1, e2 => by
    have hnp := inj_le h.2.1 h.2.2.1
    rw [L1_X0_growTree, tN_nI (k := n) (by omega)]
    by_cases c1 : nI n ≤ nI j
    · have hle := (nI_leI (a := n) (b := j) (by omega) (by have := h.1.1; omega)).mp c1
      have ej : j = n := Nat.le_antisymm h.1.1 hle
      subst ej
      rw [if_pos c1]
      exact ⟨j, x, pa, fu, W, ch, od, by rw [tN_nI (k := j) (by omega)], h, hc, hod, e0, e1, e2⟩
    · have hj : j < n := Nat.lt_of_not_le fun q => c1 ((nI_leI (a := n) (b := j) (by omega) (by have := h.1.1; omega)).mpr q)
      rw [if_neg c1]
      have hxj := h.2.1 j hj
      have eo : tN (od j) = x j := by rw [hod j hj, tN_nI (by omega)]
      have hs : ∀ y : Nat, y < 32 → (bt (nbs L (nI (tN (od j))) lc &&& (met ^^^ (-1 : Int32))) y = true ↔ chd nb p (x j) (pa j) y) := fun y hy => by
        rw [eo, b_and, b_nt _ hy, Bool.and_eq_true, hnb _ hxj y hy]
        constructor
        · rintro ⟨⟨a1, a2⟩, a3⟩
          refine (gx_new hp h hj a1).mpr ⟨a2, fun q => ?_⟩
          rw [(hmet y hy).mpr q] at a3
          exact absurd a3 (by decide)
        · intro q
          have q1 := (gx_new hp h hj q.1).mp q
          refine ⟨⟨q.1, q1.1⟩, ?_⟩
          cases b : bt met y with
          | false => rfl
          | true => exact absurd ((hmet y hy).mp b) q1.2
      have hb : ∀ (r : Nat) (z : Nat → Nat), (∀ m : Nat, m < r → chd nb p (x j) (pa j) (z m)) → (∀ a b : Nat, a < b → b < r → z a < z b) → n + r ≤ p := fun r z z1 z2 => by
        refine inj_le (x := fun k => if k < n then x k else z (k - n)) (fun k hk => ?_) (fun a b hab hb => ?_)
        · try dsimp only
          by_cases w : k < n
          · rw [if_pos w]; exact h.2.1 k w
          · rw [if_neg w]; exact (z1 (k - n) (by omega)).1
        · try dsimp only
          by_cases w : b < n
          · rw [if_pos (by omega : a < n), if_pos w]; exact h.2.2.1 a b hab w
          · rw [if_neg w]
            by_cases w2 : a < n
            · rw [if_pos w2]
              exact fun q => ((gx_new hp h hj (z1 (b - n) (by omega)).1).mp (z1 (b - n) (by omega))).2 ⟨a, w2, q⟩
            · rw [if_neg w2]
              exact fun q => by have := z2 (a - n) (b - n) (by omega) (by omega); omega
      obtain ⟨r, z, od', g1, z1, z2, z3, z4, z5⟩ := in_ok (lc := lc) (j1 := j) (x3 := met) (fyh := ch) hp hs hod hb p (Nat.le_refl _)
      obtain ⟨x', pa', fu', W', k1, k2, k3, k4⟩ := gx_step hp h hc hj hs (fun m hm => (z1 m hm).1) z2 (fun o ho => z3 o ho.1 ho)
      rw [g1, eo, upd_eq]
      rw [eo] at hs k2
      have h0 := k3 0 (by omega)
      refine go_ok hp hnb m (j + 1) (n + r) x' pa' fu' W' _ _ od' k1 k2 (fun y hy => ?_) (fun k hk => ?_) (by omega) (h0.1.trans e0) (h0.2.1.trans e1) (h0.2.2.trans e2)
      · rw [b_or, Bool.or_eq_true, hmet y hy, hs y hy]
        constructor
        · rintro (⟨k, hk, e⟩ | q)
          · exact ⟨k, by omega, (k3 k hk).1.trans e⟩
          · obtain ⟨m', hm', e⟩ := z3 y q.1 q
            exact ⟨n + m', by omega, (k4 m' hm').trans e⟩
        · rintro ⟨k, hk, e⟩
          by_cases w : k < n
          · exact Or.inl ⟨k, w, (k3 k w).1.symm.trans e⟩
          · have e3 := k4 (k - n) (by omega)
            rw [show n + (k - n) = k by omega] at e3
            refine Or.inr ?_
            rw [← e, e3]
            exact (z1 (k - n) (by omega)).1
      · by_cases w : k < n
        · rw [(k3 k w).1]; exact z4 k w
        · have e3 := k4 (k - n) (by omega)
          rw [show n + (k - n) = k by omega] at e3
          have e4 := z5 (k - n) (by omega)
          rw [show n + (k - n) = k by omega] at e4
          rw [e3]; exact e4
/-! the times, from the last one to the first one -/
theorem slo_cg {tm tm' : Nat → Int32} {s a b : Int32} (h : ∀ y : Nat, y < 7 → bt s y = true → tm' y = tm y) : ∀ k : Nat, k ≤ 7 → L1_X0_slowest tm' s a b k = L1_X0_slowest tm s a b k
  | 0, _ => rfl
  | k + 1, hk => by
    have ih := slo_cg (a := a) (b := b) h k (by omega)
    show L1_X0_slowests tm' s k (L1_X0_slowest tm' s a b k).1 (L1_X0_slowest tm' s a b k).2 = L1_X0_slowests tm s k (L1_X0_slowest tm s a b k).1 (L1_X0_slowest tm s a b k).2
    rw [ih]
    unfold L1_X0_slowests
    cases e : bt s k with
    | false => rw [if_pos ((hvb_0 (by omega)).mpr e), if_pos ((hvb_0 (by omega)).mpr e)]
    | true => rw [h k (by omega) e]
theorem slo_bt {tm : Nat → Int32} {s : Int32} (h : ∀ y : Nat, y < 7 → bt s y = true → 0 ≤ tm y) : ∀ k : Nat, k ≤ 7 → ((∀ y : Nat, y < k → bt s y = false) ∧ L1_X0_slowest tm s (-1) 0 k = (-1, 0)) ∨ ∃ x : Nat, x < k ∧ bt s x = true ∧ L1_X0_slowest tm s (-1) 0 k = (tm x, nI x)
  | 0, _ => Or.inl ⟨fun y q => absurd q (Nat.not_lt_zero y), rfl⟩
  | k + 1, hk => by
    have ih := slo_bt h k (by omega)
    have e : L1_X0_slowest tm s (-1) 0 (k + 1) = L1_X0_slowests tm s k (L1_X0_slowest tm s (-1) 0 k).1 (L1_X0_slowest tm s (-1) 0 k).2 := rfl
    rw [e]
    unfold L1_X0_slowests
    cases b : bt s k with
    | false =>
      rw [if_pos ((hvb_0 (by omega)).mpr b)]
      rcases ih with ⟨h1, h2⟩ | ⟨x, h1, h2, h3⟩
      · refine Or.inl ⟨fun y hy => ?_, by rw [h2]⟩
        by_cases q : y = k
        · subst q; exact b
        · exact h1 y (by omega)
      · exact Or.inr ⟨x, by omega, h2, by rw [h3]⟩
    | true =>
      rw [if_neg (show ¬ hasv s (nI k) = 0 from fun w => by rw [(hvb_0 (by omega)).mp w] at b; cases b)]
      rcases ih with ⟨h1, h2⟩ | ⟨x, h1, h2, h3⟩
      · rw [h2, if_neg (show ¬ tm k ≤ -1 from fun w => absurd (Int32.le_trans (h k (by omega) b) w) (by decide))]
        exact Or.inr ⟨k, by omega, b, rfl⟩
      · rw [h3]
        by_cases c1 : tm k ≤ tm x
        · rw [if_pos c1]; exact Or.inr ⟨x, by omega, h2, rfl⟩
        · rw [if_neg c1]; exact Or.inr ⟨k, by omega, b, rfl⟩
theorem tO_cg {tm tm' : Nat → Int32} : ∀ (m j : Nat) (s a : Int32), (∀ y : Nat, y < 32 → bt s y = true → y < 7 ∧ tm' y = tm y ∧ 0 ≤ tm y) → L1_X0_timeOf tm' m j s a = L1_X0_timeOf tm m j s a
  | 0, _, _, _, _ => rfl
  | m + 1, j, s, a, h => by
    rw [L1_X0_timeOf, L1_X0_timeOf]
    by_cases c1 : s = 0
    · rw [if_pos c1, if_pos c1]
    · rw [if_neg c1, if_neg c1]
      have es : F_X0_slowest tm' s = F_X0_slowest tm s := by
        unfold F_X0_slowest
        rw [slo_cg (fun y hy hb => (h y (by omega) hb).2.1) 7 (Nat.le_refl _)]
      have eb : tm' (tN (F_X0_slowest tm s)) = tm (tN (F_X0_slowest tm s)) := by
        rcases slo_bt (tm := tm) (s := s) (fun y hy hb => (h y (by omega) hb).2.2) 7 (Nat.le_refl _) with ⟨h1, -⟩ | ⟨x, h1, h2, h3⟩
        · refine absurd (b_ext fun i hi => ?_) c1
          rw [b_0]
          cases e : bt s i with
          | false => rfl
          | true => rw [h1 i (h i hi e).1] at e; cases e
        · have e : F_X0_slowest tm s = nI x := by show (L1_X0_slowest tm s (-1) 0 7).2 = nI x; rw [h3]
          rw [e, tN_nI (by omega)]
          exact (h x (by omega) h2).2.1
      rw [es, eb]
      by_cases c2 : (7 : Int32) ≤ nI (j + 1)
      · rw [if_pos c2, if_pos c2]
      · rw [if_neg c2, if_neg c2]
        refine tO_cg m (j + 1) _ _ fun y hy hb => h y hy ?_
        rw [b_and, Bool.and_eq_true] at hb
        exact hb.1
theorem tO_0 {tm : Nat → Int32} : ∀ (m j : Nat) (s a : Int32), 0 ≤ a → 0 ≤ L1_X0_timeOf tm m j s a
  | 0, _, _, _, _ => by rw [L1_X0_timeOf]; decide
  | m + 1, j, s, a, h => by
    rw [L1_X0_timeOf]
    split
    · exact h
    · split
      · exact h
      · refine tO_0 m (j + 1) _ _ ?_
        unfold mx2
        split
        · rename_i w; exact Int32.le_trans h (Int32.le_of_lt w)
        · exact h
theorem tms_ok {nb : Nat → Nat → Prop} {p n : Nat} {x : Nat → Nat} {pa : Nat → Int32} {fu : Nat → Nat} {W : Nat → Nat → Prop} {ch od tm : Nat → Int32} (hp : p ≤ 7) (h : GX nb p n n x pa fu W) (hc : GC nb p n n x pa fu ch) (hod : ∀ k : Nat, k < n → od k = nI (x k)) : ∀ k : Nat, k ≤ n → ∀ m : Nat, n - k ≤ m → m < n → L2_X0_growTree (nI n) ch od tm k (x m) = F_X0_timeOf (L2_X0_growTree (nI n) ch od tm k) ch (x m)
  | 0, _, m, h1, h2 => absurd h2 (by omega)
  | k + 1, hk, m, h1, h2 => by
    have ih := tms_ok (tm := tm) hp h hc hod k (by omega)
    have hn := inj_le h.2.1 h.2.2.1
    have hx := h.2.1 (n - k - 1) (by omega)
    have e : L2_X0_growTree (nI n) ch od tm (k + 1) = upd (L2_X0_growTree (nI n) ch od tm k) (x (n - k - 1)) (F_X0_timeOf (L2_X0_growTree (nI n) ch od tm k) ch (x (n - k - 1))) := by
      show L2_X0_growTrees (nI n) ch od k (L2_X0_growTree (nI n) ch od tm k) = _
      unfold L2_X0_growTrees
      rw [tN_nI (by omega), hod (n - k - 1) (by omega), tN_nI (by omega)]
    rw [e]
    generalize L2_X0_growTree (nI n) ch od tm k = F at ih ⊢
    -- whose times are looked at
    have look : ∀ q : Nat, n - k - 1 ≤ q → q < n → F_X0_timeOf (upd F (x (n - k - 1)) (F_X0_timeOf F ch (x (n - k - 1)))) ch (x q) = F_X0_timeOf F ch (x q) := fun q hq1 hq2 => by
      unfold F_X0_timeOf
      refine tO_cg _ _ _ _ fun y hy hb => ?_
      obtain ⟨g1, g2⟩ := hc q hq2
      have hy2 := (g1 y hy).mp hb
      obtain ⟨m', m1, m2, m3, -, -⟩ := g2 y hy2
      refine ⟨by have := hy2.1; omega, ?_, ?_⟩
      · rw [← m3]; exact upd_ne fun w => h.2.2.1 (n - k - 1) m' (by omega) m2 w.symm
      · rw [← m3, ih m' (by omega) m2]
        exact tO_0 _ _ _ _ (by decide)
    by_cases em : m = n - k - 1
    · subst em
      rw [look _ (Nat.le_refl _) h2, upd_eq]
    · rw [look m (by omega) h2, upd_ne (fun w => h.2.2.1 (n - k - 1) m (by omega) h2 w.symm)]
      exact ih m (by omega) h2
theorem cr_ok {nb : Nat → Nat → Prop} {p n : Nat} {x : Nat → Nat} {pa : Nat → Int32} {fu : Nat → Nat} {W : Nat → Nat → Prop} {ch tm : Nat → Int32} (h : GX nb p n n x pa fu W) (hc : GC nb p n n x pa fu ch) (ht : ∀ m : Nat, m < n → tm (x m) = F_X0_timeOf tm ch (x m)) : ∀ (f k : Nat), k < n → fu k = f → CR nb p tm ch f (x k) (pa k)
  | 0, k, hk, e => by
    have t := h.2.2.2.1 k hk
    rw [e] at t
    exact t.elim
  | f + 1, k, hk, e => by
    obtain ⟨g1, g2⟩ := hc k hk
    refine ⟨g1, ht k hk, fun o ho => ?_⟩
    obtain ⟨m, m1, m2, m3, m4, m5⟩ := g2 o ho
    have := cr_ok h hc ht f m m2 (by omega)
    rw [m3, m4] at this
    exact this
/-- the tree of the class -/
theorem gt_ok {nb : Nat → Nat → Prop} {p lc fo F0 : Nat} {L tm ch od : Nat → Int32} {Wr : Nat → Prop} (hp : p ≤ 7) (hnb : ∀ a : Nat, a < p → ∀ y : Nat, y < 32 → (bt (nbs L (nI a) lc) y = true ↔ y < p ∧ nb a y)) (hT : TRS nb p F0 fo (-1) Wr) : ∃ tm' ch' od' : Nat → Int32, L1_X0_growTree p lc L tm (7 + 1) 0 1 ((1 : Int32) <<< (nI fo &&& 31)) ch (upd od 0 (nI fo)) = (1, tm', ch', od') ∧ CR nb p tm' ch' F0 fo (-1) := by
  have hfo := hT.me.1
  obtain ⟨n, x, pa, fu, W, ch', od', e, h1, h2, h3, e0, e1, e2⟩ := go_ok (lc := lc) (L := L) (tm := tm) (fo := fo) (F0 := F0) hp hnb 8 0 1 (fun _ => fo) (fun _ => -1) (fun _ => F0) (fun _ => Wr) ((1 : Int32) <<< (nI fo &&& 31)) ch (upd od 0 (nI fo)) ⟨⟨Nat.zero_le _, Nat.le_refl _⟩, fun _ _ => hfo, fun i k hik hk => by omega, fun _ _ => hT, fun k _ hk m hm _ => by omega, fun a b _ ha _ hb hab => by omega, fun _ _ => Or.inl rfl⟩ (fun k hk => absurd hk (Nat.not_lt_zero _)) (fun y hy => by
    rw [b_sh1 (by omega) hy, decide_eq_true_eq]
    exact ⟨fun q => ⟨0, by omega, q.symm⟩, fun ⟨_, _, q⟩ => q.symm⟩) (fun k hk => by
    obtain rfl : k = 0 := by omega
    exact upd_eq) (by omega) rfl rfl rfl
  have hn := inj_le h1.2.1 h1.2.2.1
  refine ⟨L2_X0_growTree (nI n) ch' od' tm n, ch', od', ?_, ?_⟩
  · rw [tN_nI (by omega)] at e
    exact e
  · have c_ := cr_ok h1 h2 (tm := L2_X0_growTree (nI n) ch' od' tm n) (fun m hm => tms_ok hp h1 h2 h3 n (Nat.le_refl _) m (by omega) hm) F0 0 (by have := h1.1.2; omega) e2
    rw [e0, e1] at c_
    exact c_

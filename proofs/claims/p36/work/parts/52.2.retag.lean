/-- a valley that has been read without a fault -/
def VSP (g : GG) (sp : Nat) (H : Heap) : Prop := ∃ (p n q9 : Nat) (f : Nat → Int32), FE g sp 10 0 H (.int (nI p)) ∧ FE g sp 10 1 H (.int (nI n)) ∧ p ≤ 7 ∧ n ≤ 12 ∧ FE g sp 10 9 H (.ref q9) ∧ AT g 1 72 q9 f H ∧ ∀ i : Nat, i < n → ∃ a b : Nat, a < p ∧ b < p ∧ f (i * 6) = nI a ∧ f (i * 6 + 1) = nI b
theorem rt_ne {Γ : Nat → Nat} {x0 x : Nat} (h : x ≠ x0) : rt Γ x0 x = rt1 (Γ x) := by unfold rt; rw [if_neg h]
theorem rt_self {Γ : Nat → Nat} {x0 : Nat} : rt Γ x0 x0 = 0 := by unfold rt; rw [if_pos rfl]
theorem rt_nz {Γ : Nat → Nat} {x0 x : Nat} (h : rt Γ x0 x ≠ 0) : x ≠ x0 ∧ rt Γ x0 x = rt1 (Γ x) := by
  have h1 : x ≠ x0 := fun e => h (by rw [e]; exact rt_self)
  exact ⟨h1, rt_ne h1⟩
theorem cok_ar {g : GG} {Γ Γ' : Nat → Nat} {H : Heap} {q t t' k n : Nat} {a : AV} (h : cok g TS0 Γ q H) (hq : Γ q = t) (hq' : Γ' q = t') (e : TS0.1 t = .inr (k, n, a)) (e' : TS0.1 t' = .inr (k, n, a)) (ha : a.1 = 0) (hk : k = 1) : cok g TS0 Γ' q H := by
  unfold cok at h ⊢
  rw [hq, e] at h
  rw [hq', e']
  obtain ⟨⟨n', f⟩, h1, h2, h3⟩ := h
  refine ⟨(n', f), h1, h2, ?_⟩
  subst hk
  rcases f with f | f | f | f | f
  · refine ⟨h3.1, fun j hj => ?_⟩
    obtain ⟨q1, q2⟩ := h3.2 j hj
    exact ⟨q1, q2⟩
  · exact h3
  · exact h3
  · exact h3
  · have h3 := h3.1; omega
theorem avi_rt {g : GG} {Γ : Nat → Nat} {x0 t : Nat} {v : Value} (h0 : Γ x0 = 1) (ht : t ≠ 1) (hle : t ≤ 128) (h : avi g Γ (vr t) v) : avi g (rt Γ x0) (vr (rt1 t)) v := by
  obtain ⟨q, rfl, h1, h2⟩ := avi_ref rfl h
  have h1 : Γ q = t := h1
  have hne : q ≠ x0 := fun e => ht (by rw [← h1, e]; exact h0)
  refine Or.inl ⟨Or.inl rfl, ?_, ?_⟩
  · show rt Γ x0 q = rt1 t
    rw [rt_ne hne, h1]
  · rw [rt_ne hne, h1]
    rw [h1] at h2
    exact (rt1_a t hle).2.1 h2
theorem avi_i2 {g : GG} {Γ Γ' : Nat → Nat} {lo hi : Int} {v : Value} (h : avi g Γ (0, lo, hi) v) : avi g Γ' (0, lo, hi) v := by
  obtain ⟨x, rfl, h1, h2⟩ := avi_int rfl h
  exact ⟨rfl, h1, h2⟩
set_option maxHeartbeats 4000000 in
theorem VR_rt {g : GG} {Γ : Nat → Nat} {x0 p : Nat} {vs : List Value} (h0 : Γ x0 = 1) (hv : VR g Γ [vj (-1) 7, vi 0 12, vi 0 127, vr 110, vr 111, vr 112, vr 24, vr 24, vr 24, vr 113, vr 26, vr 27, vr 28, vr 29, vj (-2) 7, vr 30] vs) (hp : vs[0]? = some (.int (nI p))) (hp7 : p ≤ 7) : VR g (rt Γ x0) [vi 0 7, vi 0 12, vi 0 127, vr 23, vr 23, vr 23, vr 24, vr 24, vr 24, vr 25, vr 26, vr 27, vr 28, vr 29, vj (-2) 7, vr 30] vs := by
  refine VR_at hv.len fun k a v ha hk => ?_
  have key : ∀ b : AV, [vj (-1) 7, vi 0 12, vi 0 127, vr 110, vr 111, vr 112, vr 24, vr 24, vr 24, vr 113, vr 26, vr 27, vr 28, vr 29, vj (-2) 7, vr 30][k]? = some b → avi g Γ b v := fun b hb => by
    obtain ⟨w, h1, h2⟩ := hv.get hb
    rw [hk] at h1
    cases h1
    exact h2
  match k, ha with
  | 0, ha =>
    cases ha
    rw [hp] at hk
    cases hk
    exact avi_nI (lo := 0) (hi := 7) (by omega) hp7 (by decide)
  | 1, ha => cases ha; exact avi_i2 (key _ rfl)
  | 2, ha => cases ha; exact avi_i2 (key _ rfl)
  | 3, ha => cases ha; exact avi_rt (t := 110) h0 (by decide) (by decide) (key _ rfl)
  | 4, ha => cases ha; exact avi_rt (t := 111) h0 (by decide) (by decide) (key _ rfl)
  | 5, ha => cases ha; exact avi_rt (t := 112) h0 (by decide) (by decide) (key _ rfl)
  | 6, ha => cases ha; exact avi_rt (t := 24) h0 (by decide) (by decide) (key _ rfl)
  | 7, ha => cases ha; exact avi_rt (t := 24) h0 (by decide) (by decide) (key _ rfl)
  | 8, ha => cases ha; exact avi_rt (t := 24) h0 (by decide) (by decide) (key _ rfl)
  | 9, ha => cases ha; exact avi_rt (t := 113) h0 (by decide) (by decide) (key _ rfl)
  | 10, ha => cases ha; exact avi_rt (t := 26) h0 (by decide) (by decide) (key _ rfl)
  | 11, ha => cases ha; exact avi_rt (t := 27) h0 (by decide) (by decide) (key _ rfl)
  | 12, ha => cases ha; exact avi_rt (t := 28) h0 (by decide) (by decide) (key _ rfl)
  | 13, ha => cases ha; exact avi_rt (t := 29) h0 (by decide) (by decide) (key _ rfl)
  | 14, ha => cases ha; exact avi_i2 (key _ rfl)
  | 15, ha => cases ha; exact avi_rt (t := 30) h0 (by decide) (by decide) (key _ rfl)
  | k + 16, ha => cases ha
theorem HT_rt {g : GG} {Γ : Nat → Nat} {x0 m0 sp : Nat} {H : Heap} (hT : HT g TS0 Γ H) (hU : UQ TS0 Γ) (hL : LF g x0 m0 Γ H) (hsp : Γ sp = 13) (hp : VSP g sp H) : HT g TS0 (rt Γ x0) H := by
  obtain ⟨h0, -, hok, h13, hsl, -⟩ := hL
  obtain ⟨p, n, q9, f, p1, p2, p3, p4, p5, p6, p7⟩ := hp
  obtain rfl : q9 = sp + 7 := by
    have := FE_fun p5 (hsl sp hsp).2
    cases this; rfl
  obtain ⟨⟨i1, i4⟩, i2, i3⟩ := hT.2.1 rfl
  have hb : ∀ x : Nat, rt1 (Γ x) ≠ 0 → Γ x ≠ 0 := fun x h => (rt1_a _ (okt_le (hok x))).1 h
  have up : ∀ (x t : Nat), t ≠ 1 → Γ x = t → rt Γ x0 x = rt1 t := fun x t ht e => by
    rw [rt_ne (fun e2 => ht (by rw [← e, e2]; exact h0)), e]
  refine ⟨fun q hq => ?_, fun _ => ⟨⟨fun q hq => ?_, fun q hq => ?_⟩, fun q hq => ?_, fun q hq => ?_⟩, fun e => by cases congrArg (fun t : TS => t.2.2) e⟩
  · obtain ⟨hne, e⟩ := rt_nz hq
    rw [e] at hq
    have hz := hb q hq
    have hc := hT.1 q hz
    by_cases e13 : Γ q = 13
    · obtain rfl := h13 q sp e13 hsp
      unfold cok
      rw [e, e13]
      obtain ⟨vs, h1, h2⟩ := h_obj hT hz ((congrArg TS0.1 e13).trans rfl)
      refine ⟨vs, h1, VR_rt (p := p) h0 h2 ?_ p3⟩
      have hl := h2.len
      cases vs with
      | nil => cases hl
      | cons v r =>
        have hv := FE_at (k := 0) h1 rfl (by decide) rfl
        rw [FE_fun hv p1]; rfl
    · by_cases ea : RT0.any (fun u => Nat.beq u (Γ q)) = true
      · have hc2 : Γ q = 1 ∨ Γ q = 13 ∨ Γ q = 110 ∨ Γ q = 111 ∨ Γ q = 112 ∨ Γ q = 113 := by
          obtain ⟨u, hu, hu2⟩ := List.any_eq_true.mp ea
          have hu2 := Nat.eq_of_beq_eq_true hu2
          subst hu2
          simpa [RT0] using hu
        rcases hc2 with h | h | h | h | h | h
        · exfalso
          exact hne (hU q x0 (h.trans h0.symm) (by rw [h]; decide))
        · exact absurd h e13
        · exact cok_ar hc h (by rw [e, h]) rfl rfl rfl rfl
        · exact cok_ar hc h (by rw [e, h]) rfl rfl rfl rfl
        · exact cok_ar hc h (by rw [e, h]) rfl rfl rfl rfl
        · exact cok_ar hc h (by rw [e, h]) rfl rfl rfl rfl
      · have ea : (RT0.any fun u => Nat.beq u (Γ q)) = false := by
          cases hh : RT0.any fun u => Nat.beq u (Γ q) with
          | false => rfl
          | true => exact absurd hh ea
        refine cok_mono (RT := RT0) hc (e.trans (rt1_id ea)) (tag_rt _ (okt_le (hok q)) (hok q) hz (fun e1 => ?_) e13) fun x hx hx2 => ?_
        · rw [e1] at ea; cases ea
        · refine (rt_ne (fun e2 => ?_)).trans (rt1_id hx2)
          rw [e2, h0] at hx2; cases hx2
  · have hq2 : rt Γ x0 q ≠ 0 := by rcases hq with h | h <;> rw [h] <;> decide
    obtain ⟨hne, e⟩ := rt_nz hq2
    rw [e] at hq
    have hle := okt_le (hok q)
    rcases hq with h | h
    · exact i1 q ((rt1_b _ hle).1 h)
    · exact absurd h (rt1_a _ hle).2.2.2.2
  · obtain ⟨hne, e⟩ := rt_nz (by rw [hq]; decide)
    rw [e] at hq
    rcases (rt1_b _ (okt_le (hok q))).2.1 hq with h | h
    · obtain ⟨b1, b2⟩ := i4 q h
      exact ⟨up _ 25 (by decide) b1, b2⟩
    · obtain rfl := h13 q sp h hsp
      exact ⟨up _ 113 (by decide) (hsl q h).1, p5, p, n, f, p1, p2, p3, p4, p6, p7⟩
  · obtain ⟨hne, e⟩ := rt_nz (by rw [hq]; decide)
    rw [e] at hq
    obtain ⟨b1, b2, b3⟩ := i2 q ((rt1_b _ (okt_le (hok q))).2.2.1 hq)
    exact ⟨up _ 32 (by decide) b1, up _ 34 (by decide) b2, b3⟩
  · obtain ⟨hne, e⟩ := rt_nz (by rw [hq]; decide)
    rw [e] at hq
    obtain ⟨b1, b2, b3⟩ := i3 q ((rt1_b _ (okt_le (hok q))).2.2.2 hq)
    exact ⟨up _ 44 (by decide) b1, up _ 46 (by decide) b2, b3⟩

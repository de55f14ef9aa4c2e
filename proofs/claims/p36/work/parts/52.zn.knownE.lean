theorem DV5 {g : GG} {Γ : Nat → Nat} {H : Heap} {c yk yt : Nat} (hT : HT g TS0 Γ H) (hc : Γ c = 5) (h0 : FE g c 1 0 H (.ref yk)) (h1 : FE g c 1 1 H (.ref yt)) : ∃ (yd : Int32) (yu yb : Int64), va_at g.1 CLS (c, .inr (1, [.ref yk, .ref yt, .int yd, .long yu, .long yb])) H ∧ Γ yk = 38 ∧ Γ yt = 38 := by
  obtain ⟨vs, A, hv⟩ := h_obj hT (by rw [hc]; decide) ((congrArg TS0.1 hc).trans rfl)
  obtain ⟨w0, s0, rfl, a0, hv⟩ := vr_cons hv
  obtain ⟨w1, s1, rfl, a1, hv⟩ := vr_cons hv
  obtain ⟨w2, s2, rfl, a2, hv⟩ := vr_cons hv
  obtain ⟨w3, s3, rfl, a3, hv⟩ := vr_cons hv
  obtain ⟨w4, s4, rfl, a4, hv⟩ := vr_cons hv
  obtain rfl := vr_nil hv
  obtain ⟨c0, rfl, t0, -⟩ := avi_ref rfl a0
  obtain ⟨c1, rfl, t1, -⟩ := avi_ref rfl a1
  obtain ⟨yd, rfl, -⟩ := avi_int rfl a2
  obtain ⟨yu, rfl⟩ := avi_long rfl a3
  obtain ⟨yb, rfl⟩ := avi_long rfl a4
  cases FE_fun (FE_at (k := 0) A rfl (by decide) rfl) h0
  cases FE_fun (FE_at (k := 1) A rfl (by decide) rfl) h1
  exact ⟨yd, yu, yb, A, t0, t1⟩
theorem hbj_of {p : Nat} {w : PP} (hp : p ≤ 7) (hw : PWF p w) (ho : ORD w) : ∀ j : Nat, j < w.c → ¬ w.k (tN (w.o j)) = 3 → w.b (tN (w.o j)) = nI (tN (w.b (tN (w.o j)))) ∧ tN (w.b (tN (w.o j))) < 7 := fun j hj h3 => by
  obtain ⟨t, ht, q1, _⟩ := ho j hj
  have hc := hw.1
  have et : tN (w.o j) = t := by rw [q1, tN_nI (by omega)]
  rw [et] at h3 ⊢
  obtain ⟨_, ⟨a, b⟩, _⟩ := hc_at (n := p) (by omega) ((hw.2.2 t ht).2.2.2 h3)
  exact ⟨a, by omega⟩

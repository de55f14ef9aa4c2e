theorem DV0 {g : GG} {Γ : Nat → Nat} {H : Heap} {c : Nat} (hT : HT g TS0 Γ H) (hc : Γ c = 11) : ∃ (gv : Value) (kn on : Int32) (yc yt yh yo : Nat), va_at g.1 CLS (c, .inr (0, [gv, .int kn, .int on, .ref yc, .ref yt, .ref yh, .ref yo])) H ∧ Γ yc = 51 ∧ Γ yt = 52 ∧ Γ yh = 53 ∧ Γ yo = 54 := by
  obtain ⟨vs, A, hv⟩ := h_obj hT (by rw [hc]; decide) ((congrArg TS0.1 hc).trans rfl)
  obtain ⟨w0, s0, rfl, a0, hv⟩ := vr_cons hv
  obtain ⟨w1, s1, rfl, a1, hv⟩ := vr_cons hv
  obtain ⟨w2, s2, rfl, a2, hv⟩ := vr_cons hv
  obtain ⟨w3, s3, rfl, a3, hv⟩ := vr_cons hv
  obtain ⟨w4, s4, rfl, a4, hv⟩ := vr_cons hv
  obtain ⟨w5, s5, rfl, a5, hv⟩ := vr_cons hv
  obtain ⟨w6, s6, rfl, a6, hv⟩ := vr_cons hv
  obtain rfl := vr_nil hv
  obtain ⟨kn, rfl, -⟩ := avi_int rfl a1
  obtain ⟨on, rfl, -⟩ := avi_int rfl a2
  obtain ⟨c3, rfl, t3, -⟩ := avi_ref rfl a3
  obtain ⟨c4, rfl, t4, -⟩ := avi_ref rfl a4
  obtain ⟨c5, rfl, t5, -⟩ := avi_ref rfl a5
  obtain ⟨c6, rfl, t6, -⟩ := avi_ref rfl a6
  exact ⟨w0, kn, on, c3, c4, c5, c6, A, t3, t4, t5, t6⟩

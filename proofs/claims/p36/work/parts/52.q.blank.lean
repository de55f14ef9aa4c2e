/-- the element of a row of references keeps to its tag -/
theorem RFA_tag {g : GG} {Γ : Nat → Nat} {H : Heap} {q t k n u : Nat} {f : Nat → Option Nat} (hT : HT g TS0 Γ H) (hq : Γ q = t) (h0 : t ≠ 0) (ht : TS0.1 t = .inr (k, n, vn u)) (hk : k = 4 ∨ k = 5) (h : RFA g q k n f H) {j a : Nat} (hj : j < n) (hf : f j = some a) : Γ a = u ∧ Γ a ≠ 0 := by
  obtain ⟨⟨n', x⟩, hP, hn, hA⟩ := h_at hT (by rw [hq]; exact h0) ((congrArg TS0.1 hq).trans ht)
  have hn : n' = n := hn
  subst hn
  have h1 := hP 0 _ rfl
  rcases x with x | x | x | x | x
  · have hA := hA.1
    omega
  · have hA : k = 2 := hA
    omega
  · exact hA.elim
  · exact hA.elim
  · have e : arrV (g.2.1 k) n' (fun j => va_rf (f j)) = arrV (g.2.1 k) n' (fun j => va_rf (x j)) := Option.some.inj ((show H[q]? = some _ from h).symm.trans h1)
    have r1 := arrV_read (g.2.1 k) (fun j => va_rf (f j)) hj
    have r2 := arrV_read (g.2.1 k) (fun j => va_rf (x j)) hj
    rw [e, r2] at r1
    have e2 : va_rf (x j) = .ref a := (Option.some.inj r1).trans (by rw [hf]; rfl)
    have h3 := hA.2 j hj
    rw [e2] at h3
    rcases avi_nr h3 with ⟨y, hy, h4, h5⟩ | hy
    · cases hy; exact ⟨h4, h5⟩
    · cases hy
section
variable {l : Launch} {g : GG} {Γ : Nat → Nat} {x0 m0 n nv np : Nat} {fb : Nat → Int32}
end

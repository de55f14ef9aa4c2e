/-! what is known after an hour: one row, whichever side carries -/
def kC (v : VV) (w : PP) (lo : Int64) (wo : Int32) : Nat → Int32 := (F_X12_carry (fun _ => v.de) v.kn v.mn w.h w.k w.a (vdT (kx v) w) (rcT (kx v) w) (fun _ => 0) (fun _ => 0) (fun _ => 0) (fun _ => 0) v.p 0 0 w.c lo wo).1
section
variable {v : VV} {w : PP} {lo : Int64} {wo : Int32} {W R W' R' kN tO : Nat → Int32} {z x : Nat}
end
theorem hfz_at {x : Int32} (h : ¬ F_X11_isHourOrFirst x = 0) : x = nI (tN x) ∧ tN x ≤ 24 := by
  unfold F_X11_isHourOrFirst at h
  by_cases h1 : x < 0
  · rw [if_pos h1] at h; exact absurd rfl h
  · rw [if_neg h1] at h
    by_cases h2 : 24 < x
    · rw [if_pos h2] at h; exact absurd rfl h
    · obtain ⟨a, b, c⟩ := bn_at (lo := 0) (hi := 24) (by omega) (Int32.not_lt.mp h1) (Int32.not_lt.mp h2)
      exact ⟨a, c⟩
/-! known -/
/-! together -/

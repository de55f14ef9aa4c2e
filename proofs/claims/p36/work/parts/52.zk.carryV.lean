/-! news carried: both sides agree -/
/-- what holds within an hour: of the class's people, of the reference's rows -/
def CIV (p : Nat) (de B : Int32) (s : CS) (fr tw A O : Nat → Int32) : Prop := (∀ x : Nat, x < p → s.1 x = A x ||| fr x) ∧ (∀ x : Nat, x < p → bt de x = true → s.2.1 x = (O x ||| tw x) &&& ((A x ||| fr x) ^^^ (-1 : Int32))) ∧ (∀ x : Nat, x < p → bt de x = false → s.2.1 x = 0) ∧ (∀ x : Nat, x < p → bt B x = false → fr x = 0 ∧ tw x = 0) ∧ (∀ x : Nat, x < 7 → s.2.1 x &&& s.1 x = 0)
theorem CIV.kn {p : Nat} {de B : Int32} {s : CS} {fr tw A O : Nat → Int32} (h : CIV p de B s fr tw A O) : ∀ x : Nat, x < p → s.1 x = A x ||| fr x := h.1
theorem CIV.td {p : Nat} {de B : Int32} {s : CS} {fr tw A O : Nat → Int32} (h : CIV p de B s fr tw A O) : ∀ x : Nat, x < p → bt de x = true → s.2.1 x = (O x ||| tw x) &&& ((A x ||| fr x) ^^^ (-1 : Int32)) := h.2.1
theorem CIV.tn {p : Nat} {de B : Int32} {s : CS} {fr tw A O : Nat → Int32} (h : CIV p de B s fr tw A O) : ∀ x : Nat, x < p → bt de x = false → s.2.1 x = 0 := h.2.2.1
theorem CIV.out {p : Nat} {de B : Int32} {s : CS} {fr tw A O : Nat → Int32} (h : CIV p de B s fr tw A O) : ∀ x : Nat, x < p → bt B x = false → fr x = 0 ∧ tw x = 0 := h.2.2.2.1
theorem CIV.inv {p : Nat} {de B : Int32} {s : CS} {fr tw A O : Nat → Int32} (h : CIV p de B s fr tw A O) : ∀ x : Nat, x < 7 → s.2.1 x &&& s.1 x = 0 := h.2.2.2.2
theorem CIV.mono {p : Nat} {de B B' : Int32} {s : CS} {fr tw A O : Nat → Int32} (h : CIV p de B s fr tw A O) (hB : ∀ x : Nat, x < p → bt B' x = false → bt B x = false) : CIV p de B' s fr tw A O := ⟨h.kn, h.td, h.tn, fun x hx q => h.out x hx (hB x hx q), h.inv⟩
/-! hour by hour -/
section
variable {G23 G24 G25 rD rS k8 : Nat → Int32} {i v9 : Nat} {lo : Int64} {wo : Int32} {v : VV} {w : PP} {W R W' R' : Nat → Int32}
/-- after so many hours -/
def HIV (v : VV) (k : Nat) (C : Nat → CS) (aF oN : Nat → Int32) : Prop := (∀ j : Nat, j ≤ k → ∀ x : Nat, x < v.p → (C (j + 1)).1 x = aF (7 * j + x)) ∧ (∀ x : Nat, x < v.p → bt v.de x = true → (C (k + 1)).2.1 x = oN (7 * k + x) &&& (aF (7 * k + x) ^^^ (-1 : Int32))) ∧ (∀ x : Nat, x < v.p → bt v.de x = false → (C (k + 1)).2.1 x = 0) ∧ (∀ x : Nat, x < 7 → (C (k + 1)).2.1 x &&& (C (k + 1)).1 x = 0)
theorem HIV.kn {v : VV} {k : Nat} {C : Nat → CS} {aF oN : Nat → Int32} (h : HIV v k C aF oN) : ∀ j : Nat, j ≤ k → ∀ x : Nat, x < v.p → (C (j + 1)).1 x = aF (7 * j + x) := h.1
theorem HIV.td {v : VV} {k : Nat} {C : Nat → CS} {aF oN : Nat → Int32} (h : HIV v k C aF oN) : ∀ x : Nat, x < v.p → bt v.de x = true → (C (k + 1)).2.1 x = oN (7 * k + x) &&& (aF (7 * k + x) ^^^ (-1 : Int32)) := h.2.1
theorem HIV.tn {v : VV} {k : Nat} {C : Nat → CS} {aF oN : Nat → Int32} (h : HIV v k C aF oN) : ∀ x : Nat, x < v.p → bt v.de x = false → (C (k + 1)).2.1 x = 0 := h.2.2.1
theorem HIV.inv {v : VV} {k : Nat} {C : Nat → CS} {aF oN : Nat → Int32} (h : HIV v k C aF oN) : ∀ x : Nat, x < 7 → (C (k + 1)).2.1 x &&& (C (k + 1)).1 x = 0 := h.2.2.2
end

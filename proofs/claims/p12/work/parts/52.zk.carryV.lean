/-! news carried: both sides agree -/
/-- what holds within an hour: of the class's people, of the reference's rows -/
structure CIV (p : Nat) (de B : Int32) (s : CS) (fr tw A O : Nat → Int32) : Prop where
  kn : ∀ x : Nat, x < p → s.1 x = A x ||| fr x
  td : ∀ x : Nat, x < p → bt de x = true → s.2.1 x = (O x ||| tw x) &&& ((A x ||| fr x) ^^^ (-1 : Int32))
  tn : ∀ x : Nat, x < p → bt de x = false → s.2.1 x = 0
  out : ∀ x : Nat, x < p → bt B x = false → fr x = 0 ∧ tw x = 0
  inv : ∀ x : Nat, x < 7 → s.2.1 x &&& s.1 x = 0
theorem CIV.mono {p : Nat} {de B B' : Int32} {s : CS} {fr tw A O : Nat → Int32} (h : CIV p de B s fr tw A O) (hB : ∀ x : Nat, x < p → bt B' x = false → bt B x = false) : CIV p de B' s fr tw A O := ⟨h.kn, h.td, h.tn, fun x hx q => h.out x hx (hB x hx q), h.inv⟩
/-! hour by hour -/
section
variable {G23 G24 G25 rD rS k8 : Nat → Int32} {i v9 : Nat} {lo : Int64} {wo : Int32} {v : VV} {w : PP} {W R W' R' : Nat → Int32}
end

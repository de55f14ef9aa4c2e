/-! who knows, who was told once after so many hours of a plan: one state on both sides -/
section
variable {G23 G24 G25 rD rS k8 : Nat → Int32} {i v9 : Nat} {lo : Int64} {wo : Int32} {v : VV} {w : PP} {W R W' R' : Nat → Int32}
end
section
variable {v : VV} {w : PP} {ni h : Nat}
variable {kN tO W R : Nat → Int32}
end
section
variable {F G : Nat → Nat → Int32} {v : VV} {w : PP} {ni h i : Nat} {aF oN fR tW W R : Nat → Int32}
end

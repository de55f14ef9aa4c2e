/-! breaks: which calls may be skipped in the search for those by whose loss a plan breaks -/
def lb (x : Int64) (i : Nat) : Bool := x.toBitVec.getLsbD i
/-- one call lost -/
abbrev bL (c : Nat) : Int64 := (1 : Int64) <<< ((nI c).toInt64 &&& 63)
/-! a call that told nobody anything new changed nothing -/
section
variable {yd wo : Int32} {lo : Int64} {w : PP} {W R k8 k6 kN tO : Nat → Int32} {c t : Nat}
end
/-! whether a plan breaks with some lost (0: it does) -/
section
variable {v : VV} {w : PP} {lo lo' : Int64} {W R kN tO : Nat → Int32} {c : Nat}
end
/-! the search: so many calls from this one on, the lowest first -/
def fL (g : Nat → Int64 → Option (List Nat)) (c : Nat) : Nat → Nat → Int64 → Option (List Nat)
  | 0, _, _ => none
  | m + 1, f, lo => if c ≤ f then none else (match g (f + 1) (lo ||| bL f) with
    | some l => some (f :: l)
    | none => fL g c m (f + 1) lo)
def fS (B : Int64 → Int32) (c : Nat) : Nat → Nat → Int64 → Option (List Nat)
  | 0, _, lo => if B lo = 0 then some [] else none
  | k + 1, f, lo => fL (fS B c k) c (c - f + 1) f lo
/-! the class's search -/
abbrev bits (lo : Int64) (l : List Nat) : Int64 := l.foldl (fun s c => s ||| bL c) lo
section
variable {v : VV} {w : PP} {W R : Nat → Int32}

end
/-! the calls of a set, one by one -/
/-! the answer -/
/-! the reference's search -/
section
variable {F G : Nat → Nat → Int32} {v : VV} {w : PP} {i : Nat} {W R : Nat → Int32}
end

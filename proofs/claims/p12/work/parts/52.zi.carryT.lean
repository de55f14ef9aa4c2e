/-! news carried: one told -/
/-! one shouts -/
/-! the class's walk over the calls, hour by hour -/
abbrev CS : Type := (Nat → Int32) × (Nat → Int32) × Int64
def hin (f : Nat → CS → CS) (h : Nat → Nat) (H : Nat) : Nat → CS → CS
  | 0, s => s
  | m + 1, s => if h m = H then f m (hin f h H m s) else hin f h H m s
def hrs (f : Nat → CS → CS) (h : Nat → Nat) (c : Nat) : Nat → CS → CS
  | 0, s => s
  | H + 1, s => hin f h H c (hrs f h c H s)
def fo (f : Nat → CS → CS) (o : Nat → Nat) : Nat → CS → CS
  | 0, s => s
  | i + 1, s => f (o i) (fo f o i s)

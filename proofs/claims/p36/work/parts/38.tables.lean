/-! the checker's tables, class by class (laid by wip/safe/emit.py) -/
def vi (a b : Nat) : AV := (0, .ofNat a, .ofNat b)
def vj (a b : Int) : AV := (0, a, b)
def vr (t : Nat) : AV := (1, .ofNat t, 0)
def vn (t : Nat) : AV := (2, .ofNat t, 0)
def vg (t : Nat) : AV := (3, .ofNat t, 0)
def vk (k : Nat) : AV := (k, 0, 0)
def FLOK (own : String) (fl : FLT) : Prop := ∀ x f, lka fl x = some f → FOK own x f
theorem FL_nil {own : String} : FLOK own [] := fun _ _ h => by cases h
theorem FL_cons {own : String} {i : Nat} {e : Bool × Nat × Nat × Bool × Nat} {fl : FLT} (h : FOK own i e) (r : FLOK own fl) : FLOK own ((i, e) :: fl) := fun x f q => by
  rw [lka] at q
  cases hj : Nat.beq i x with
  | true => rw [hj] at q; cases q; rw [← Nat.eq_of_beq_eq_true hj]; exact h
  | false => rw [hj] at q; exact r x f q
theorem G_nil {own : String} : GOK own [] := fun _ _ h => by cases h
theorem G_cons5 {own : String} {i : Nat} {gs : List (Nat × Nat)} (h : Cond.fieldLink own i RX9 "COUPLE_A" "[I" ∈ BW) (r : GOK own gs) : GOK own ((i, 5) :: gs) := fun x k q => by
  rw [lka] at q
  cases hj : Nat.beq i x with
  | true => rw [hj] at q; cases q; rw [← Nat.eq_of_beq_eq_true hj]; exact ⟨_, fun _ => ⟨h, rfl⟩, fun z => by cases z⟩
  | false => rw [hj] at q; exact r x k q
theorem G_cons6 {own : String} {i : Nat} {gs : List (Nat × Nat)} (h : Cond.fieldLink own i RX9 "COUPLE_B" "[I" ∈ BW) (r : GOK own gs) : GOK own ((i, 6) :: gs) := fun x k q => by
  rw [lka] at q
  cases hj : Nat.beq i x with
  | true => rw [hj] at q; cases q; rw [← Nat.eq_of_beq_eq_true hj]; exact ⟨_, (fun z => by cases z), fun _ => ⟨h, rfl⟩⟩
  | false => rw [hj] at q; exact r x k q
theorem K_nil {own : String} : KOK own [] := fun _ _ h => by cases h
theorem K_cons {own : String} {i : Nat} {v : Int} {kc : List (Nat × Int)} (h : Cond.constant own i (Int32.ofInt v) ∈ BW) (r : KOK own kc) : KOK own ((i, v) :: kc) := fun x k q => by
  rw [lka] at q
  cases hj : Nat.beq i x with
  | true => rw [hj] at q; cases q; rw [← Nat.eq_of_beq_eq_true hj]; exact h
  | false => rw [hj] at q; exact r x k q
theorem L_nil {own : String} : LOK own [] := fun _ h => by cases h
theorem L_cons {own : String} {i : Nat} {v : Int64} {kl : List Nat} (h : Cond.constantLong own i v ∈ BW) (r : LOK own kl) : LOK own (i :: kl) := fun x q => by
  rcases List.mem_cons.mp q with rfl | q
  · exact ⟨_, h⟩
  · exact r x q
def CALOK (l : Launch) (g : GG) (ts : TS) (own : String) (cal : CAL) : Prop := ∀ (h kd idx na ci : Nat) (sq : SPEC), cal[h]? = some (kd, idx, na, ci, sq) → COK l g ts own kd idx na ci sq
theorem CA_nil {l : Launch} {g : GG} {ts : TS} {own : String} : CALOK l g ts own [] := fun _ _ _ _ _ _ h => by cases h
theorem CA_cons {l : Launch} {g : GG} {ts : TS} {own : String} {kd idx na ci : Nat} {sq : SPEC} {cal : CAL} (h : COK l g ts own kd idx na ci sq) (r : CALOK l g ts own cal) : CALOK l g ts own ((kd, idx, na, ci, sq) :: cal) := fun k kd' idx' na' ci' sq' q => by
  cases k with
  | zero => cases q; exact h
  | succ k => exact r k kd' idx' na' ci' sq' q
theorem COV {l : Launch} {g : GG} {ts : TS} {own C : String} {T : u_T} {N idx na ci : Nat} {sq : SPEC} {y : MethodName} {c : ByteArray} {n : Nat} {r : Option FieldType} (hS : SM l g ts y c n r sq) (hn : n ≤ 21) (h : LV own idx C y c n r na) (hc : CLS[ci]? = some (C, T, N)) : COK l g ts own 0 idx na ci sq := Or.inl ⟨y, c, n, r, hS, hn, Or.inl ⟨rfl, C, T, N, h, hc⟩⟩
theorem COVN {l : Launch} {g : GG} {ts : TS} {own C host : String} {T : u_T} {N idx na ci : Nat} {sq : SPEC} {y : MethodName} {c : ByteArray} {n : Nat} {r : Option FieldType} (hS : SM l g ts y c n r sq) (hn : n ≤ 21) (h : LVN own idx host C y c n r na) (hc : CLS[ci]? = some (C, T, N)) : COK l g ts own 0 idx na ci sq := Or.inl ⟨y, c, n, r, hS, hn, Or.inr (Or.inl ⟨rfl, host, C, T, N, h, hc⟩)⟩
theorem COS {l : Launch} {g : GG} {ts : TS} {own : String} {idx na ci : Nat} {sq : SPEC} {y : MethodName} {c : ByteArray} {n : Nat} {r : Option FieldType} (hS : SM l g ts y c n r sq) (hn : n ≤ 21) (h : LST own idx y c n r na) : COK l g ts own 1 idx na ci sq := Or.inl ⟨y, c, n, r, hS, hn, Or.inr (Or.inr (Or.inl ⟨rfl, h⟩))⟩
theorem COSN {l : Launch} {g : GG} {ts : TS} {own host : String} {idx na ci : Nat} {sq : SPEC} {y : MethodName} {c : ByteArray} {n : Nat} {r : Option FieldType} (hS : SM l g ts y c n r sq) (hn : n ≤ 21) (h : LSN own idx host y c n r na) : COK l g ts own 2 idx na ci sq := Or.inl ⟨y, c, n, r, hS, hn, Or.inr (Or.inr (Or.inr ⟨rfl, host, h⟩))⟩
theorem COCP {l : Launch} {g : GG} {ts : TS} {own : String} {idx ci t1 t2 k n1 n2 : Nat} {a1 a2 : AV} (h : CPY own idx) (h1 : ts.1 t1 = .inr (1, n1, a1)) (h2 : ts.1 t2 = .inr (1, n2, a2)) (h3 : k ≤ n1) (h4 : k ≤ n2) (h5 : n1 < 2 ^ 31) (h6 : avle a1 a2 = true) (h7 : md GD t2 0 = false) : COK l g ts own 3 idx 5 ci (cpsp t1 t2 k) := Or.inr (Or.inl ⟨rfl, rfl, h, t1, t2, k, n1, n2, a1, a2, rfl, h1, h2, h3, h4, h5, h6, h7⟩)
theorem COMN {l : Launch} {g : GG} {ts : TS} {own : String} {idx ci : Nat} {a b : AV} (h : MNX own idx) (ha : a.1 = 0) (hb : b.1 = 0) : COK l g ts own 4 idx 2 ci (mnsp a b) := Or.inr (Or.inr ⟨rfl, a, b, ha, hb, Or.inl ⟨rfl, h, rfl⟩⟩)
theorem COMX {l : Launch} {g : GG} {ts : TS} {own : String} {idx ci : Nat} {a b : AV} (h : MXX own idx) (ha : a.1 = 0) (hb : b.1 = 0) : COK l g ts own 5 idx 2 ci (mxsp a b) := Or.inr (Or.inr ⟨rfl, a, b, ha, hb, Or.inr ⟨rfl, h, rfl⟩⟩)
theorem m_230 : (Cond.fieldLink "NoonValley$Cards" 24 "NoonValley$Cards" "valley" "LNoonValley$Valley;") ∈ BW := bw (tb1 230 rfl) (by decide +kernel)
theorem m_231 : (Cond.fieldLink "NoonValley$Cards" 28 "NoonValley$Cards" "known" "I") ∈ BW := bw (tb1 231 rfl) (by decide +kernel)
theorem m_232 : (Cond.fieldLink "NoonValley$Cards" 32 "NoonValley$Cards" "once" "I") ∈ BW := bw (tb1 232 rfl) (by decide +kernel)
theorem m_273 : (Cond.fieldLinkNest "NoonValley$Cards" 51 "NoonValley$Valley" "people" "I" "NoonValley") ∈ NWS := nw (tb2 33 rfl) (by decide +kernel)
theorem m_287 : (Cond.fieldLinkNest "NoonValley$Cards" 65 "NoonValley$Valley" "deaf" "I" "NoonValley") ∈ NWS := nw (tb2 47 rfl) (by decide +kernel)
theorem m_587 : (Cond.laysFinal "NoonValley$Plan" "NoonValley$Plan" "valley" "LNoonValley$Valley;") ∈ BW := bw (tb3 107 rfl) (by decide +kernel)
theorem m_589 : (Cond.lays "NoonValley$Plan" "NoonValley$Plan" "count" "I") ∈ BW := bw (tb3 109 rfl) (by decide +kernel)
theorem m_591 : (Cond.laysFinal "NoonValley$Plan" "NoonValley$Plan" "hours" "[I") ∈ BW := bw (tb3 111 rfl) (by decide +kernel)
theorem m_593 : (Cond.laysFinal "NoonValley$Plan" "NoonValley$Plan" "kinds" "[I") ∈ BW := bw (tb3 113 rfl) (by decide +kernel)
theorem m_595 : (Cond.laysFinal "NoonValley$Plan" "NoonValley$Plan" "callers" "[I") ∈ BW := bw (tb3 115 rfl) (by decide +kernel)
theorem m_597 : (Cond.laysFinal "NoonValley$Plan" "NoonValley$Plan" "called" "[I") ∈ BW := bw (tb3 117 rfl) (by decide +kernel)
theorem m_599 : (Cond.laysFinal "NoonValley$Plan" "NoonValley$Plan" "order" "[I") ∈ BW := bw (tb3 119 rfl) (by decide +kernel)
theorem m_601 : (Cond.laysFinal "NoonValley$Plan" "NoonValley$Plan" "verdict" "[I") ∈ BW := bw (tb3 121 rfl) (by decide +kernel)
theorem m_603 : (Cond.laysFinal "NoonValley$Plan" "NoonValley$Plan" "others" "[I") ∈ BW := bw (tb3 123 rfl) (by decide +kernel)
theorem ciX4 : CI 4 RX4 TX4 9 tyX4 := ⟨rfl, fun w hw => by
  obtain ⟨k, hk, rfl⟩ := List.mem_map.mp hw
  have hk := List.mem_range.mp hk
  match k, hk with
  | 0, _ => exact m_587
  | 1, _ => exact m_589
  | 2, _ => exact m_591
  | 3, _ => exact m_593
  | 4, _ => exact m_595
  | 5, _ => exact m_597
  | 6, _ => exact m_599
  | 7, _ => exact m_601
  | 8, _ => exact m_603
  | k + 9, h => exact absurd h (by omega), tyX4_ok, nmX4⟩
theorem m_567 : (Cond.fieldLinkNest "NoonValley$Carrying" 27 "NoonValley$Plan" "valley" "LNoonValley$Valley;" "NoonValley") ∈ NWS := nw (tb3 87 rfl) (by decide +kernel)
theorem m_286 : (Cond.fieldLinkNest "NoonValley$Carrying" 31 "NoonValley$Valley" "deaf" "I" "NoonValley") ∈ NWS := nw (tb2 46 rfl) (by decide +kernel)
theorem m_61 : (Cond.fieldLink "NoonValley$Carrying" 37 "NoonValley$Carrying" "deaf" "I") ∈ BW := bw (tb1 61 rfl) (by decide +kernel)
theorem m_62 : (Cond.fieldLink "NoonValley$Carrying" 38 "NoonValley$Carrying" "useful" "J") ∈ BW := bw (tb1 62 rfl) (by decide +kernel)
theorem m_305 : (Cond.fieldLinkNest "NoonValley$Carrying" 42 "NoonValley$Valley" "firstNews" "[I" "NoonValley") ∈ NWS := nw (tb2 65 rfl) (by decide +kernel)
theorem m_570 : (Cond.fieldLinkNest "NoonValley$Carrying" 45 "NoonValley$Plan" "count" "I" "NoonValley") ∈ NWS := nw (tb3 90 rfl) (by decide +kernel)
theorem m_581 : (Cond.fieldLinkNest "NoonValley$Carrying" 48 "NoonValley$Plan" "order" "[I" "NoonValley") ∈ NWS := nw (tb3 101 rfl) (by decide +kernel)
theorem m_573 : (Cond.fieldLinkNest "NoonValley$Carrying" 51 "NoonValley$Plan" "hours" "[I" "NoonValley") ∈ NWS := nw (tb3 93 rfl) (by decide +kernel)
theorem m_583 : (Cond.fieldLinkNest "NoonValley$Carrying" 54 "NoonValley$Plan" "verdict" "[I" "NoonValley") ∈ NWS := nw (tb3 103 rfl) (by decide +kernel)
theorem m_577 : (Cond.fieldLinkNest "NoonValley$Carrying" 61 "NoonValley$Plan" "callers" "[I" "NoonValley") ∈ NWS := nw (tb3 97 rfl) (by decide +kernel)
theorem m_575 : (Cond.fieldLinkNest "NoonValley$Carrying" 64 "NoonValley$Plan" "kinds" "[I" "NoonValley") ∈ NWS := nw (tb3 95 rfl) (by decide +kernel)
theorem m_586 : (Cond.fieldLinkNest "NoonValley$Carrying" 67 "NoonValley$Plan" "others" "[I" "NoonValley") ∈ NWS := nw (tb3 106 rfl) (by decide +kernel)
theorem m_579 : (Cond.fieldLinkNest "NoonValley$Carrying" 74 "NoonValley$Plan" "called" "[I" "NoonValley") ∈ NWS := nw (tb3 99 rfl) (by decide +kernel)
theorem m_309 : (Cond.fieldLinkNest "NoonValley$Carrying" 81 "NoonValley$Valley" "mustNotNews" "[I" "NoonValley") ∈ NWS := nw (tb2 69 rfl) (by decide +kernel)
theorem m_279 : (Cond.fieldLinkNest "NoonValley$Carrying" 91 "NoonValley$Valley" "people" "I" "NoonValley") ∈ NWS := nw (tb2 39 rfl) (by decide +kernel)
theorem m_307 : (Cond.fieldLinkNest "NoonValley$Carrying" 94 "NoonValley$Valley" "mustNews" "[I" "NoonValley") ∈ NWS := nw (tb2 67 rfl) (by decide +kernel)
theorem m_63 : (Cond.fieldLink "NoonValley$Carrying" 101 "NoonValley$Carrying" "breaking" "J") ∈ BW := bw (tb1 63 rfl) (by decide +kernel)
theorem m_1058 : (Cond.constantLong "NoonValley$Carrying" 112 (-1 : Int64)) ∈ BW := bw (tb5 98 rfl) (by decide +kernel)
theorem m_572 : (Cond.fieldLink "NoonValley$Plan" 11 "NoonValley$Plan" "hours" "[I") ∈ BW := bw (tb3 92 rfl) (by decide +kernel)
theorem m_574 : (Cond.fieldLink "NoonValley$Plan" 15 "NoonValley$Plan" "kinds" "[I") ∈ BW := bw (tb3 94 rfl) (by decide +kernel)
theorem m_576 : (Cond.fieldLink "NoonValley$Plan" 18 "NoonValley$Plan" "callers" "[I") ∈ BW := bw (tb3 96 rfl) (by decide +kernel)
theorem m_578 : (Cond.fieldLink "NoonValley$Plan" 21 "NoonValley$Plan" "called" "[I") ∈ BW := bw (tb3 98 rfl) (by decide +kernel)
theorem m_580 : (Cond.fieldLink "NoonValley$Plan" 24 "NoonValley$Plan" "order" "[I") ∈ BW := bw (tb3 100 rfl) (by decide +kernel)
theorem m_582 : (Cond.fieldLink "NoonValley$Plan" 27 "NoonValley$Plan" "verdict" "[I") ∈ BW := bw (tb3 102 rfl) (by decide +kernel)
theorem m_585 : (Cond.fieldLink "NoonValley$Plan" 30 "NoonValley$Plan" "others" "[I") ∈ BW := bw (tb3 105 rfl) (by decide +kernel)
theorem m_566 : (Cond.fieldLink "NoonValley$Plan" 33 "NoonValley$Plan" "valley" "LNoonValley$Valley;") ∈ BW := bw (tb3 86 rfl) (by decide +kernel)
theorem m_569 : (Cond.fieldLink "NoonValley$Plan" 37 "NoonValley$Plan" "count" "I") ∈ BW := bw (tb3 89 rfl) (by decide +kernel)
theorem m_92 : (Cond.fieldLink "NoonValley$Rows" 25 "NoonValley$Rows" "count" "I") ∈ BW := bw (tb1 92 rfl) (by decide +kernel)
theorem m_95 : (Cond.fieldLink "NoonValley$Rows" 29 "NoonValley$Rows" "people" "I") ∈ BW := bw (tb1 95 rfl) (by decide +kernel)
theorem m_174 : (Cond.fieldLink "NoonValley$Shutting" 9 "NoonValley$Shutting" "valley" "LNoonValley$Valley;") ∈ BW := bw (tb1 174 rfl) (by decide +kernel)
theorem m_175 : (Cond.fieldLink "NoonValley$Shutting" 15 "NoonValley$Shutting" "goal" "I") ∈ BW := bw (tb1 175 rfl) (by decide +kernel)
theorem m_176 : (Cond.fieldLink "NoonValley$Shutting" 19 "NoonValley$Shutting" "hour" "I") ∈ BW := bw (tb1 176 rfl) (by decide +kernel)
theorem m_292 : (Cond.fieldLinkNest "NoonValley$Shutting" 22 "NoonValley$Valley" "knows" "[I" "NoonValley") ∈ NWS := nw (tb2 52 rfl) (by decide +kernel)
theorem m_177 : (Cond.fieldLink "NoonValley$Shutting" 32 "NoonValley$Shutting" "before" "I") ∈ BW := bw (tb1 177 rfl) (by decide +kernel)
theorem m_281 : (Cond.fieldLinkNest "NoonValley$Shutting" 39 "NoonValley$Valley" "lineCount" "I" "NoonValley") ∈ NWS := nw (tb2 41 rfl) (by decide +kernel)
theorem m_178 : (Cond.fieldLink "NoonValley$Shutting" 46 "NoonValley$Shutting" "used" "I") ∈ BW := bw (tb1 178 rfl) (by decide +kernel)
theorem m_275 : (Cond.fieldLinkNest "NoonValley$Spreading" 51 "NoonValley$Valley" "people" "I" "NoonValley") ∈ NWS := nw (tb2 35 rfl) (by decide +kernel)
theorem m_114 : (Cond.fieldLink "NoonValley$Spreading" 57 "NoonValley$Spreading" "people" "I") ∈ BW := bw (tb1 114 rfl) (by decide +kernel)
theorem m_288 : (Cond.fieldLinkNest "NoonValley$Spreading" 58 "NoonValley$Valley" "deaf" "I" "NoonValley") ∈ NWS := nw (tb2 48 rfl) (by decide +kernel)
theorem m_115 : (Cond.fieldLink "NoonValley$Spreading" 61 "NoonValley$Spreading" "deaf" "I") ∈ BW := bw (tb1 115 rfl) (by decide +kernel)
theorem m_301 : (Cond.fieldLinkNest "NoonValley$Spreading" 66 "NoonValley$Valley" "mustNot" "[I" "NoonValley") ∈ NWS := nw (tb2 61 rfl) (by decide +kernel)
theorem m_116 : (Cond.fieldLink "NoonValley$Spreading" 69 "NoonValley$Spreading" "takingPart" "I") ∈ BW := bw (tb1 116 rfl) (by decide +kernel)
theorem m_297 : (Cond.fieldLinkNest "NoonValley$Spreading" 72 "NoonValley$Valley" "must" "[I" "NoonValley") ∈ NWS := nw (tb2 57 rfl) (by decide +kernel)
theorem m_117 : (Cond.fieldLink "NoonValley$Spreading" 75 "NoonValley$Spreading" "must" "I") ∈ BW := bw (tb1 117 rfl) (by decide +kernel)
theorem m_125 : (Cond.fieldLink "NoonValley$Spreading" 95 "NoonValley$Spreading" "nowCount" "I") ∈ BW := bw (tb1 125 rfl) (by decide +kernel)
theorem m_126 : (Cond.fieldLink "NoonValley$Spreading" 118 "NoonValley$Spreading" "nextCount" "I") ∈ BW := bw (tb1 126 rfl) (by decide +kernel)
theorem m_93 : (Cond.fieldLinkNest "NoonValley$Spreading" 127 "NoonValley$Rows" "count" "I" "NoonValley") ∈ NWS := nw (tb1 93 rfl) (by decide +kernel)
theorem m_88 : (Cond.fieldLinkNest "NoonValley$Spreading" 130 "NoonValley$Rows" "sets" "[I" "NoonValley") ∈ NWS := nw (tb1 88 rfl) (by decide +kernel)
theorem m_90 : (Cond.fieldLinkNest "NoonValley$Spreading" 172 "NoonValley$Rows" "rows" "[I" "NoonValley") ∈ NWS := nw (tb1 90 rfl) (by decide +kernel)
theorem m_295 : (Cond.fieldLinkNest "NoonValley$Spreading" 178 "NoonValley$Valley" "knows" "[I" "NoonValley") ∈ NWS := nw (tb2 55 rfl) (by decide +kernel)
theorem m_128 : (Cond.fieldLink "NoonValley$Spreading" 190 "NoonValley$Spreading" "addedA" "I") ∈ BW := bw (tb1 128 rfl) (by decide +kernel)
theorem m_130 : (Cond.fieldLink "NoonValley$Spreading" 193 "NoonValley$Spreading" "addedB" "I") ∈ BW := bw (tb1 130 rfl) (by decide +kernel)
theorem m_132 : (Cond.fieldLink "NoonValley$Spreading" 196 "NoonValley$Spreading" "spared" "I") ∈ BW := bw (tb1 132 rfl) (by decide +kernel)
theorem m_282 : (Cond.fieldLinkNest "NoonValley$Trade" 57 "NoonValley$Valley" "lineCount" "I" "NoonValley") ∈ NWS := nw (tb2 42 rfl) (by decide +kernel)
theorem m_277 : (Cond.fieldLinkNest "NoonValley$Trade" 95 "NoonValley$Valley" "people" "I" "NoonValley") ∈ NWS := nw (tb2 37 rfl) (by decide +kernel)
theorem m_955 : (Cond.fieldLink "NoonValley$Trade" 86 "NoonValley$Trade" "COUPLE_B" "[I") ∈ BW := bw (tb4 235 rfl) (by decide +kernel)
theorem m_939 : (Cond.constant "NoonValley$Trade" 31 (33825 : Int32)) ∈ BW := bw (tb4 219 rfl) (by decide +kernel)
theorem m_276 : (Cond.fieldLinkNest "NoonValley" 105 "NoonValley$Valley" "people" "I" "NoonValley") ∈ NWS := nw (tb2 36 rfl) (by decide +kernel)
theorem m_284 : (Cond.fieldLinkNest "NoonValley" 108 "NoonValley$Valley" "lineCount" "I" "NoonValley") ∈ NWS := nw (tb2 44 rfl) (by decide +kernel)
theorem m_289 : (Cond.fieldLinkNest "NoonValley" 111 "NoonValley$Valley" "deaf" "I" "NoonValley") ∈ NWS := nw (tb2 49 rfl) (by decide +kernel)
theorem m_293 : (Cond.fieldLinkNest "NoonValley" 114 "NoonValley$Valley" "knows" "[I" "NoonValley") ∈ NWS := nw (tb2 53 rfl) (by decide +kernel)
theorem m_298 : (Cond.fieldLinkNest "NoonValley" 118 "NoonValley$Valley" "must" "[I" "NoonValley") ∈ NWS := nw (tb2 58 rfl) (by decide +kernel)
theorem m_302 : (Cond.fieldLinkNest "NoonValley" 121 "NoonValley$Valley" "mustNot" "[I" "NoonValley") ∈ NWS := nw (tb2 62 rfl) (by decide +kernel)
theorem m_568 : (Cond.fieldLinkNest "NoonValley" 165 "NoonValley$Plan" "valley" "LNoonValley$Valley;" "NoonValley") ∈ NWS := nw (tb3 88 rfl) (by decide +kernel)
theorem m_571 : (Cond.fieldLinkNest "NoonValley" 177 "NoonValley$Plan" "count" "I" "NoonValley") ∈ NWS := nw (tb3 91 rfl) (by decide +kernel)
theorem m_584 : (Cond.fieldLinkNest "NoonValley" 183 "NoonValley$Plan" "verdict" "[I" "NoonValley") ∈ NWS := nw (tb3 104 rfl) (by decide +kernel)
theorem m_59 : (Cond.fieldLinkNest "NoonValley" 193 "NoonValley$Carrying" "known" "[I" "NoonValley") ∈ NWS := nw (tb1 59 rfl) (by decide +kernel)
theorem m_127 : (Cond.fieldLinkNest "NoonValley" 240 "NoonValley$Spreading" "addedA" "I" "NoonValley") ∈ NWS := nw (tb1 127 rfl) (by decide +kernel)
theorem m_129 : (Cond.fieldLinkNest "NoonValley" 243 "NoonValley$Spreading" "addedB" "I" "NoonValley") ∈ NWS := nw (tb1 129 rfl) (by decide +kernel)
theorem m_131 : (Cond.fieldLinkNest "NoonValley" 246 "NoonValley$Spreading" "spared" "I" "NoonValley") ∈ NWS := nw (tb1 131 rfl) (by decide +kernel)
theorem m_319 : (Cond.fieldLinkNest "NoonValley" 256 "NoonValley$Valley" "gossipLines" "[I" "NoonValley") ∈ NWS := nw (tb2 79 rfl) (by decide +kernel)
theorem m_235 : (Cond.fieldLinkNest "NoonValley" 282 "NoonValley$Cards" "time" "[I" "NoonValley") ∈ NWS := nw (tb1 235 rfl) (by decide +kernel)
theorem m_1268 : (Cond.fieldLink "NoonValleyModel" 283 "NoonValleyModel" "askValley" "I") ∈ BW := bw (tb6 68 rfl) (by decide +kernel)
theorem m_1269 : (Cond.fieldLink "NoonValleyModel" 286 "NoonValleyModel" "askMust" "I") ∈ BW := bw (tb6 69 rfl) (by decide +kernel)
theorem m_1270 : (Cond.fieldLink "NoonValleyModel" 289 "NoonValleyModel" "askNot" "I") ∈ BW := bw (tb6 70 rfl) (by decide +kernel)
theorem m_1271 : (Cond.fieldLink "NoonValleyModel" 321 "NoonValleyModel" "nextKnow" "I") ∈ BW := bw (tb6 71 rfl) (by decide +kernel)
theorem m_1272 : (Cond.fieldLink "NoonValleyModel" 324 "NoonValleyModel" "nextOnce" "I") ∈ BW := bw (tb6 72 rfl) (by decide +kernel)
def FLJ6 : FLT := []
theorem hFJ6 : FLOK RJ6 FLJ6 := FL_nil
def GSJ6 : List (Nat × Nat) := []
theorem hGJ6 : GOK RJ6 GSJ6 := G_nil
def KCJ6 : List (Nat × Int) := [(265, 1431655765), (266, 858993459), (267, 252645135)]
theorem hKJ6 : KOK RJ6 KCJ6 := K_cons m_812 (K_cons m_813 (K_cons m_814 (K_nil)))
def KLJ6 : List Nat := []
theorem hLJ6 : LOK RJ6 KLJ6 := L_nil
def FLJ7 : FLT := []
theorem hFJ7 : FLOK RJ7 FLJ7 := FL_nil
def GSJ7 : List (Nat × Nat) := []
theorem hGJ7 : GOK RJ7 GSJ7 := G_nil
def KCJ7 : List (Nat × Int) := []
theorem hKJ7 : KOK RJ7 KCJ7 := K_nil
def KLJ7 : List Nat := []
theorem hLJ7 : LOK RJ7 KLJ7 := L_nil
def FLX0 : FLT := [(9, false, 0, 3, false, 2), (15, false, 0, 4, false, 2), (18, false, 0, 5, false, 2), (21, false, 0, 6, false, 2), (24, false, 0, 0, true, 2), (28, false, 0, 1, true, 0), (32, false, 0, 2, true, 0), (51, true, 10, 0, true, 0), (65, true, 10, 2, true, 0)]
theorem hFX0 : FLOK RX0 FLX0 := FL_cons ⟨_, _, _, _, _, "", ciX0, by decide, rfl, m_233, (fun h => by cases h), Or.inr (Or.inr (Or.inl ⟨rfl, Or.inr ⟨_, rfl⟩⟩))⟩ (FL_cons ⟨_, _, _, _, _, "", ciX0, by decide, rfl, m_234, (fun h => by cases h), Or.inr (Or.inr (Or.inl ⟨rfl, Or.inr ⟨_, rfl⟩⟩))⟩ (FL_cons ⟨_, _, _, _, _, "", ciX0, by decide, rfl, m_236, (fun h => by cases h), Or.inr (Or.inr (Or.inl ⟨rfl, Or.inr ⟨_, rfl⟩⟩))⟩ (FL_cons ⟨_, _, _, _, _, "", ciX0, by decide, rfl, m_237, (fun h => by cases h), Or.inr (Or.inr (Or.inl ⟨rfl, Or.inr ⟨_, rfl⟩⟩))⟩ (FL_cons ⟨_, _, _, _, _, "", ciX0, by decide, rfl, m_230, (fun _ => rfl), Or.inr (Or.inr (Or.inl ⟨rfl, Or.inl ⟨_, rfl⟩⟩))⟩ (FL_cons ⟨_, _, _, _, _, "", ciX0, by decide, rfl, m_231, (fun _ => rfl), Or.inl ⟨rfl, rfl⟩⟩ (FL_cons ⟨_, _, _, _, _, "", ciX0, by decide, rfl, m_232, (fun _ => rfl), Or.inl ⟨rfl, rfl⟩⟩ (FL_cons ⟨_, _, _, _, _, _, ciX10, by decide, rfl, m_273, (fun _ => rfl), Or.inl ⟨rfl, rfl⟩⟩ (FL_cons ⟨_, _, _, _, _, _, ciX10, by decide, rfl, m_287, (fun _ => rfl), Or.inl ⟨rfl, rfl⟩⟩ (FL_nil)))))))))
def GSX0 : List (Nat × Nat) := []
theorem hGX0 : GOK RX0 GSX0 := G_nil
def KCX0 : List (Nat × Int) := []
theorem hKX0 : KOK RX0 KCX0 := K_nil
def KLX0 : List Nat := []
theorem hLX0 : LOK RX0 KLX0 := L_nil
def FLX1 : FLT := [(9, false, 1, 0, false, 2), (15, false, 1, 1, false, 2), (27, true, 4, 0, false, 2), (31, true, 10, 2, true, 0), (37, false, 1, 2, true, 0), (38, false, 1, 3, true, 1), (42, true, 10, 6, false, 2), (45, true, 4, 1, true, 0), (48, true, 4, 6, false, 2), (51, true, 4, 2, false, 2), (54, true, 4, 7, false, 2), (61, true, 4, 4, false, 2), (64, true, 4, 3, false, 2), (67, true, 4, 8, false, 2), (74, true, 4, 5, false, 2), (81, true, 10, 8, false, 2), (91, true, 10, 0, true, 0), (94, true, 10, 7, false, 2), (101, false, 1, 4, true, 1)]
theorem hFX1 : FLOK RX1 FLX1 := FL_cons ⟨_, _, _, _, _, "", ciX1, by decide, rfl, m_58, (fun h => by cases h), Or.inr (Or.inr (Or.inl ⟨rfl, Or.inr ⟨_, rfl⟩⟩))⟩ (FL_cons ⟨_, _, _, _, _, "", ciX1, by decide, rfl, m_60, (fun h => by cases h), Or.inr (Or.inr (Or.inl ⟨rfl, Or.inr ⟨_, rfl⟩⟩))⟩ (FL_cons ⟨_, _, _, _, _, _, ciX4, by decide, rfl, m_567, (fun h => by cases h), Or.inr (Or.inr (Or.inl ⟨rfl, Or.inl ⟨_, rfl⟩⟩))⟩ (FL_cons ⟨_, _, _, _, _, _, ciX10, by decide, rfl, m_286, (fun _ => rfl), Or.inl ⟨rfl, rfl⟩⟩ (FL_cons ⟨_, _, _, _, _, "", ciX1, by decide, rfl, m_61, (fun _ => rfl), Or.inl ⟨rfl, rfl⟩⟩ (FL_cons ⟨_, _, _, _, _, "", ciX1, by decide, rfl, m_62, (fun _ => rfl), Or.inr (Or.inl ⟨rfl, rfl⟩)⟩ (FL_cons ⟨_, _, _, _, _, _, ciX10, by decide, rfl, m_305, (fun h => by cases h), Or.inr (Or.inr (Or.inl ⟨rfl, Or.inr ⟨_, rfl⟩⟩))⟩ (FL_cons ⟨_, _, _, _, _, _, ciX4, by decide, rfl, m_570, (fun _ => rfl), Or.inl ⟨rfl, rfl⟩⟩ (FL_cons ⟨_, _, _, _, _, _, ciX4, by decide, rfl, m_581, (fun h => by cases h), Or.inr (Or.inr (Or.inl ⟨rfl, Or.inr ⟨_, rfl⟩⟩))⟩ (FL_cons ⟨_, _, _, _, _, _, ciX4, by decide, rfl, m_573, (fun h => by cases h), Or.inr (Or.inr (Or.inl ⟨rfl, Or.inr ⟨_, rfl⟩⟩))⟩ (FL_cons ⟨_, _, _, _, _, _, ciX4, by decide, rfl, m_583, (fun h => by cases h), Or.inr (Or.inr (Or.inl ⟨rfl, Or.inr ⟨_, rfl⟩⟩))⟩ (FL_cons ⟨_, _, _, _, _, _, ciX4, by decide, rfl, m_577, (fun h => by cases h), Or.inr (Or.inr (Or.inl ⟨rfl, Or.inr ⟨_, rfl⟩⟩))⟩ (FL_cons ⟨_, _, _, _, _, _, ciX4, by decide, rfl, m_575, (fun h => by cases h), Or.inr (Or.inr (Or.inl ⟨rfl, Or.inr ⟨_, rfl⟩⟩))⟩ (FL_cons ⟨_, _, _, _, _, _, ciX4, by decide, rfl, m_586, (fun h => by cases h), Or.inr (Or.inr (Or.inl ⟨rfl, Or.inr ⟨_, rfl⟩⟩))⟩ (FL_cons ⟨_, _, _, _, _, _, ciX4, by decide, rfl, m_579, (fun h => by cases h), Or.inr (Or.inr (Or.inl ⟨rfl, Or.inr ⟨_, rfl⟩⟩))⟩ (FL_cons ⟨_, _, _, _, _, _, ciX10, by decide, rfl, m_309, (fun h => by cases h), Or.inr (Or.inr (Or.inl ⟨rfl, Or.inr ⟨_, rfl⟩⟩))⟩ (FL_cons ⟨_, _, _, _, _, _, ciX10, by decide, rfl, m_279, (fun _ => rfl), Or.inl ⟨rfl, rfl⟩⟩ (FL_cons ⟨_, _, _, _, _, _, ciX10, by decide, rfl, m_307, (fun h => by cases h), Or.inr (Or.inr (Or.inl ⟨rfl, Or.inr ⟨_, rfl⟩⟩))⟩ (FL_cons ⟨_, _, _, _, _, "", ciX1, by decide, rfl, m_63, (fun _ => rfl), Or.inr (Or.inl ⟨rfl, rfl⟩)⟩ (FL_nil)))))))))))))))))))
def GSX1 : List (Nat × Nat) := []
theorem hGX1 : GOK RX1 GSX1 := G_nil
def KCX1 : List (Nat × Int) := []
theorem hKX1 : KOK RX1 KCX1 := K_nil
def KLX1 : List Nat := [112]
theorem hLX1 : LOK RX1 KLX1 := L_cons m_1058 (L_nil)
def FLX2 : FLT := [(11, false, 2, 0, true, 2), (15, false, 2, 1, true, 2)]
theorem hFX2 : FLOK RX2 FLX2 := FL_cons ⟨_, _, _, _, _, "", ciX2, by decide, rfl, m_259, (fun _ => rfl), Or.inr (Or.inr (Or.inl ⟨rfl, Or.inr ⟨_, rfl⟩⟩))⟩ (FL_cons ⟨_, _, _, _, _, "", ciX2, by decide, rfl, m_260, (fun _ => rfl), Or.inr (Or.inr (Or.inl ⟨rfl, Or.inr ⟨_, rfl⟩⟩))⟩ (FL_nil))
def GSX2 : List (Nat × Nat) := []
theorem hGX2 : GOK RX2 GSX2 := G_nil
def KCX2 : List (Nat × Int) := []
theorem hKX2 : KOK RX2 KCX2 := K_nil
def KLX2 : List Nat := [47, 49]
theorem hLX2 : LOK RX2 KLX2 := L_cons m_1102 (L_cons m_1103 (L_nil))
def FLX3 : FLT := [(11, false, 3, 2, false, 2), (15, true, 10, 14, true, 0), (25, true, 10, 0, true, 0), (32, false, 3, 0, true, 2), (40, false, 3, 1, true, 0), (58, true, 10, 1, true, 0), (70, true, 10, 15, false, 2)]
theorem hFX3 : FLOK RX3 FLX3 := FL_cons ⟨_, _, _, _, _, "", ciX3, by decide, rfl, m_198, (fun h => by cases h), Or.inr (Or.inr (Or.inl ⟨rfl, Or.inr ⟨_, rfl⟩⟩))⟩ (FL_cons ⟨_, _, _, _, _, _, ciX10, by decide, rfl, m_316, (fun _ => rfl), Or.inl ⟨rfl, rfl⟩⟩ (FL_cons ⟨_, _, _, _, _, _, ciX10, by decide, rfl, m_274, (fun _ => rfl), Or.inl ⟨rfl, rfl⟩⟩ (FL_cons ⟨_, _, _, _, _, "", ciX3, by decide, rfl, m_196, (fun _ => rfl), Or.inr (Or.inr (Or.inl ⟨rfl, Or.inl ⟨_, rfl⟩⟩))⟩ (FL_cons ⟨_, _, _, _, _, "", ciX3, by decide, rfl, m_197, (fun _ => rfl), Or.inl ⟨rfl, rfl⟩⟩ (FL_cons ⟨_, _, _, _, _, _, ciX10, by decide, rfl, m_283, (fun _ => rfl), Or.inl ⟨rfl, rfl⟩⟩ (FL_cons ⟨_, _, _, _, _, _, ciX10, by decide, rfl, m_318, (fun h => by cases h), Or.inr (Or.inr (Or.inl ⟨rfl, Or.inr ⟨_, rfl⟩⟩))⟩ (FL_nil)))))))
def GSX3 : List (Nat × Nat) := []
theorem hGX3 : GOK RX3 GSX3 := G_nil
def KCX3 : List (Nat × Int) := []
theorem hKX3 : KOK RX3 KCX3 := K_nil
def KLX3 : List Nat := []
theorem hLX3 : LOK RX3 KLX3 := L_nil
def FLX4 : FLT := [(11, false, 4, 2, false, 2), (15, false, 4, 3, false, 2), (18, false, 4, 4, false, 2), (21, false, 4, 5, false, 2), (24, false, 4, 6, false, 2), (27, false, 4, 7, false, 2), (30, false, 4, 8, false, 2), (33, false, 4, 0, false, 2), (37, false, 4, 1, true, 0)]
theorem hFX4 : FLOK RX4 FLX4 := FL_cons ⟨_, _, _, _, _, "", ciX4, by decide, rfl, m_572, (fun h => by cases h), Or.inr (Or.inr (Or.inl ⟨rfl, Or.inr ⟨_, rfl⟩⟩))⟩ (FL_cons ⟨_, _, _, _, _, "", ciX4, by decide, rfl, m_574, (fun h => by cases h), Or.inr (Or.inr (Or.inl ⟨rfl, Or.inr ⟨_, rfl⟩⟩))⟩ (FL_cons ⟨_, _, _, _, _, "", ciX4, by decide, rfl, m_576, (fun h => by cases h), Or.inr (Or.inr (Or.inl ⟨rfl, Or.inr ⟨_, rfl⟩⟩))⟩ (FL_cons ⟨_, _, _, _, _, "", ciX4, by decide, rfl, m_578, (fun h => by cases h), Or.inr (Or.inr (Or.inl ⟨rfl, Or.inr ⟨_, rfl⟩⟩))⟩ (FL_cons ⟨_, _, _, _, _, "", ciX4, by decide, rfl, m_580, (fun h => by cases h), Or.inr (Or.inr (Or.inl ⟨rfl, Or.inr ⟨_, rfl⟩⟩))⟩ (FL_cons ⟨_, _, _, _, _, "", ciX4, by decide, rfl, m_582, (fun h => by cases h), Or.inr (Or.inr (Or.inl ⟨rfl, Or.inr ⟨_, rfl⟩⟩))⟩ (FL_cons ⟨_, _, _, _, _, "", ciX4, by decide, rfl, m_585, (fun h => by cases h), Or.inr (Or.inr (Or.inl ⟨rfl, Or.inr ⟨_, rfl⟩⟩))⟩ (FL_cons ⟨_, _, _, _, _, "", ciX4, by decide, rfl, m_566, (fun h => by cases h), Or.inr (Or.inr (Or.inl ⟨rfl, Or.inl ⟨_, rfl⟩⟩))⟩ (FL_cons ⟨_, _, _, _, _, "", ciX4, by decide, rfl, m_569, (fun _ => rfl), Or.inl ⟨rfl, rfl⟩⟩ (FL_nil)))))))))
def GSX4 : List (Nat × Nat) := []
theorem hGX4 : GOK RX4 GSX4 := G_nil
def KCX4 : List (Nat × Int) := []
theorem hKX4 : KOK RX4 KCX4 := K_nil
def KLX4 : List Nat := []
theorem hLX4 : LOK RX4 KLX4 := L_nil
def FLX5 : FLT := [(11, false, 5, 0, false, 2), (15, false, 5, 1, false, 2), (18, false, 5, 2, false, 2), (22, false, 5, 4, false, 2), (25, false, 5, 3, true, 0), (29, false, 5, 5, true, 0)]
theorem hFX5 : FLOK RX5 FLX5 := FL_cons ⟨_, _, _, _, _, "", ciX5, by decide, rfl, m_87, (fun h => by cases h), Or.inr (Or.inr (Or.inl ⟨rfl, Or.inr ⟨_, rfl⟩⟩))⟩ (FL_cons ⟨_, _, _, _, _, "", ciX5, by decide, rfl, m_89, (fun h => by cases h), Or.inr (Or.inr (Or.inl ⟨rfl, Or.inr ⟨_, rfl⟩⟩))⟩ (FL_cons ⟨_, _, _, _, _, "", ciX5, by decide, rfl, m_91, (fun h => by cases h), Or.inr (Or.inr (Or.inl ⟨rfl, Or.inr ⟨_, rfl⟩⟩))⟩ (FL_cons ⟨_, _, _, _, _, "", ciX5, by decide, rfl, m_94, (fun h => by cases h), Or.inr (Or.inr (Or.inl ⟨rfl, Or.inr ⟨_, rfl⟩⟩))⟩ (FL_cons ⟨_, _, _, _, _, "", ciX5, by decide, rfl, m_92, (fun _ => rfl), Or.inl ⟨rfl, rfl⟩⟩ (FL_cons ⟨_, _, _, _, _, "", ciX5, by decide, rfl, m_95, (fun _ => rfl), Or.inl ⟨rfl, rfl⟩⟩ (FL_nil))))))
def GSX5 : List (Nat × Nat) := []
theorem hGX5 : GOK RX5 GSX5 := G_nil
def KCX5 : List (Nat × Int) := []
theorem hKX5 : KOK RX5 KCX5 := K_nil
def KLX5 : List Nat := []
theorem hLX5 : LOK RX5 KLX5 := L_nil
def FLX6 : FLT := [(9, false, 6, 0, true, 2), (15, false, 6, 1, true, 0), (19, false, 6, 2, true, 0), (22, true, 10, 3, false, 2), (32, false, 6, 3, true, 0), (39, true, 10, 1, true, 0), (46, false, 6, 4, true, 0)]
theorem hFX6 : FLOK RX6 FLX6 := FL_cons ⟨_, _, _, _, _, "", ciX6, by decide, rfl, m_174, (fun _ => rfl), Or.inr (Or.inr (Or.inl ⟨rfl, Or.inl ⟨_, rfl⟩⟩))⟩ (FL_cons ⟨_, _, _, _, _, "", ciX6, by decide, rfl, m_175, (fun _ => rfl), Or.inl ⟨rfl, rfl⟩⟩ (FL_cons ⟨_, _, _, _, _, "", ciX6, by decide, rfl, m_176, (fun _ => rfl), Or.inl ⟨rfl, rfl⟩⟩ (FL_cons ⟨_, _, _, _, _, _, ciX10, by decide, rfl, m_292, (fun h => by cases h), Or.inr (Or.inr (Or.inl ⟨rfl, Or.inr ⟨_, rfl⟩⟩))⟩ (FL_cons ⟨_, _, _, _, _, "", ciX6, by decide, rfl, m_177, (fun _ => rfl), Or.inl ⟨rfl, rfl⟩⟩ (FL_cons ⟨_, _, _, _, _, _, ciX10, by decide, rfl, m_281, (fun _ => rfl), Or.inl ⟨rfl, rfl⟩⟩ (FL_cons ⟨_, _, _, _, _, "", ciX6, by decide, rfl, m_178, (fun _ => rfl), Or.inl ⟨rfl, rfl⟩⟩ (FL_nil)))))))
def GSX6 : List (Nat × Nat) := []
theorem hGX6 : GOK RX6 GSX6 := G_nil
def KCX6 : List (Nat × Int) := []
theorem hKX6 : KOK RX6 KCX6 := K_nil
def KLX6 : List Nat := []
theorem hLX6 : LOK RX6 KLX6 := L_nil
def FLX7 : FLT := [(12, false, 7, 0, false, 2), (18, false, 7, 5, false, 2), (22, false, 7, 6, false, 2), (25, false, 7, 7, false, 2), (28, false, 7, 8, false, 2), (31, false, 7, 9, false, 2), (34, false, 7, 10, true, 2), (37, false, 7, 11, true, 2), (51, true, 10, 0, true, 0), (57, false, 7, 1, true, 0), (58, true, 10, 2, true, 0), (61, false, 7, 2, true, 0), (66, true, 10, 5, false, 2), (69, false, 7, 3, true, 0), (72, true, 10, 4, false, 2), (75, false, 7, 4, true, 0), (95, false, 7, 12, true, 0), (118, false, 7, 13, true, 0), (127, true, 5, 3, true, 0), (130, true, 5, 0, false, 2), (172, true, 5, 1, false, 2), (178, true, 10, 3, false, 2), (190, false, 7, 14, true, 0), (193, false, 7, 15, true, 0), (196, false, 7, 16, true, 0)]
theorem hFX7 : FLOK RX7 FLX7 := FL_cons ⟨_, _, _, _, _, "", ciX7, by decide, rfl, m_113, (fun h => by cases h), Or.inr (Or.inr (Or.inl ⟨rfl, Or.inl ⟨_, rfl⟩⟩))⟩ (FL_cons ⟨_, _, _, _, _, "", ciX7, by decide, rfl, m_118, (fun h => by cases h), Or.inr (Or.inr (Or.inl ⟨rfl, Or.inr ⟨_, rfl⟩⟩))⟩ (FL_cons ⟨_, _, _, _, _, "", ciX7, by decide, rfl, m_119, (fun h => by cases h), Or.inr (Or.inr (Or.inl ⟨rfl, Or.inr ⟨_, rfl⟩⟩))⟩ (FL_cons ⟨_, _, _, _, _, "", ciX7, by decide, rfl, m_120, (fun h => by cases h), Or.inr (Or.inr (Or.inl ⟨rfl, Or.inr ⟨_, rfl⟩⟩))⟩ (FL_cons ⟨_, _, _, _, _, "", ciX7, by decide, rfl, m_121, (fun h => by cases h), Or.inr (Or.inr (Or.inl ⟨rfl, Or.inr ⟨_, rfl⟩⟩))⟩ (FL_cons ⟨_, _, _, _, _, "", ciX7, by decide, rfl, m_122, (fun h => by cases h), Or.inr (Or.inr (Or.inl ⟨rfl, Or.inr ⟨_, rfl⟩⟩))⟩ (FL_cons ⟨_, _, _, _, _, "", ciX7, by decide, rfl, m_123, (fun _ => rfl), Or.inr (Or.inr (Or.inl ⟨rfl, Or.inr ⟨_, rfl⟩⟩))⟩ (FL_cons ⟨_, _, _, _, _, "", ciX7, by decide, rfl, m_124, (fun _ => rfl), Or.inr (Or.inr (Or.inl ⟨rfl, Or.inr ⟨_, rfl⟩⟩))⟩ (FL_cons ⟨_, _, _, _, _, _, ciX10, by decide, rfl, m_275, (fun _ => rfl), Or.inl ⟨rfl, rfl⟩⟩ (FL_cons ⟨_, _, _, _, _, "", ciX7, by decide, rfl, m_114, (fun _ => rfl), Or.inl ⟨rfl, rfl⟩⟩ (FL_cons ⟨_, _, _, _, _, _, ciX10, by decide, rfl, m_288, (fun _ => rfl), Or.inl ⟨rfl, rfl⟩⟩ (FL_cons ⟨_, _, _, _, _, "", ciX7, by decide, rfl, m_115, (fun _ => rfl), Or.inl ⟨rfl, rfl⟩⟩ (FL_cons ⟨_, _, _, _, _, _, ciX10, by decide, rfl, m_301, (fun h => by cases h), Or.inr (Or.inr (Or.inl ⟨rfl, Or.inr ⟨_, rfl⟩⟩))⟩ (FL_cons ⟨_, _, _, _, _, "", ciX7, by decide, rfl, m_116, (fun _ => rfl), Or.inl ⟨rfl, rfl⟩⟩ (FL_cons ⟨_, _, _, _, _, _, ciX10, by decide, rfl, m_297, (fun h => by cases h), Or.inr (Or.inr (Or.inl ⟨rfl, Or.inr ⟨_, rfl⟩⟩))⟩ (FL_cons ⟨_, _, _, _, _, "", ciX7, by decide, rfl, m_117, (fun _ => rfl), Or.inl ⟨rfl, rfl⟩⟩ (FL_cons ⟨_, _, _, _, _, "", ciX7, by decide, rfl, m_125, (fun _ => rfl), Or.inl ⟨rfl, rfl⟩⟩ (FL_cons ⟨_, _, _, _, _, "", ciX7, by decide, rfl, m_126, (fun _ => rfl), Or.inl ⟨rfl, rfl⟩⟩ (FL_cons ⟨_, _, _, _, _, _, ciX5, by decide, rfl, m_93, (fun _ => rfl), Or.inl ⟨rfl, rfl⟩⟩ (FL_cons ⟨_, _, _, _, _, _, ciX5, by decide, rfl, m_88, (fun h => by cases h), Or.inr (Or.inr (Or.inl ⟨rfl, Or.inr ⟨_, rfl⟩⟩))⟩ (FL_cons ⟨_, _, _, _, _, _, ciX5, by decide, rfl, m_90, (fun h => by cases h), Or.inr (Or.inr (Or.inl ⟨rfl, Or.inr ⟨_, rfl⟩⟩))⟩ (FL_cons ⟨_, _, _, _, _, _, ciX10, by decide, rfl, m_295, (fun h => by cases h), Or.inr (Or.inr (Or.inl ⟨rfl, Or.inr ⟨_, rfl⟩⟩))⟩ (FL_cons ⟨_, _, _, _, _, "", ciX7, by decide, rfl, m_128, (fun _ => rfl), Or.inl ⟨rfl, rfl⟩⟩ (FL_cons ⟨_, _, _, _, _, "", ciX7, by decide, rfl, m_130, (fun _ => rfl), Or.inl ⟨rfl, rfl⟩⟩ (FL_cons ⟨_, _, _, _, _, "", ciX7, by decide, rfl, m_132, (fun _ => rfl), Or.inl ⟨rfl, rfl⟩⟩ (FL_nil)))))))))))))))))))))))))
def GSX7 : List (Nat × Nat) := []
theorem hGX7 : GOK RX7 GSX7 := G_nil
def KCX7 : List (Nat × Int) := []
theorem hKX7 : KOK RX7 KCX7 := K_nil
def KLX7 : List Nat := []
theorem hLX7 : LOK RX7 KLX7 := L_nil
def FLX8 : FLT := [(11, false, 8, 0, false, 2), (19, false, 8, 1, true, 0), (27, false, 8, 2, true, 0), (45, true, 10, 0, true, 0), (56, true, 10, 3, false, 2), (63, true, 10, 4, false, 2), (66, true, 10, 5, false, 2), (80, true, 10, 2, true, 0)]
theorem hFX8 : FLOK RX8 FLX8 := FL_cons ⟨_, _, _, _, _, "", ciX8, by decide, rfl, m_36, (fun h => by cases h), Or.inr (Or.inr (Or.inl ⟨rfl, Or.inr ⟨_, rfl⟩⟩))⟩ (FL_cons ⟨_, _, _, _, _, "", ciX8, by decide, rfl, m_37, (fun _ => rfl), Or.inl ⟨rfl, rfl⟩⟩ (FL_cons ⟨_, _, _, _, _, "", ciX8, by decide, rfl, m_39, (fun _ => rfl), Or.inl ⟨rfl, rfl⟩⟩ (FL_cons ⟨_, _, _, _, _, _, ciX10, by decide, rfl, m_278, (fun _ => rfl), Or.inl ⟨rfl, rfl⟩⟩ (FL_cons ⟨_, _, _, _, _, _, ciX10, by decide, rfl, m_294, (fun h => by cases h), Or.inr (Or.inr (Or.inl ⟨rfl, Or.inr ⟨_, rfl⟩⟩))⟩ (FL_cons ⟨_, _, _, _, _, _, ciX10, by decide, rfl, m_299, (fun h => by cases h), Or.inr (Or.inr (Or.inl ⟨rfl, Or.inr ⟨_, rfl⟩⟩))⟩ (FL_cons ⟨_, _, _, _, _, _, ciX10, by decide, rfl, m_303, (fun h => by cases h), Or.inr (Or.inr (Or.inl ⟨rfl, Or.inr ⟨_, rfl⟩⟩))⟩ (FL_cons ⟨_, _, _, _, _, _, ciX10, by decide, rfl, m_290, (fun _ => rfl), Or.inl ⟨rfl, rfl⟩⟩ (FL_nil))))))))
def GSX8 : List (Nat × Nat) := []
theorem hGX8 : GOK RX8 GSX8 := G_nil
def KCX8 : List (Nat × Int) := []
theorem hKX8 : KOK RX8 KCX8 := K_nil
def KLX8 : List Nat := []
theorem hLX8 : LOK RX8 KLX8 := L_nil
def FLX9 : FLT := [(11, false, 9, 0, true, 2), (15, false, 9, 1, true, 2), (21, false, 9, 2, false, 2), (57, true, 10, 1, true, 0), (95, true, 10, 0, true, 0)]
theorem hFX9 : FLOK RX9 FLX9 := FL_cons ⟨_, _, _, _, _, "", ciX9, by decide, rfl, m_214, (fun _ => rfl), Or.inr (Or.inr (Or.inl ⟨rfl, Or.inr ⟨_, rfl⟩⟩))⟩ (FL_cons ⟨_, _, _, _, _, "", ciX9, by decide, rfl, m_215, (fun _ => rfl), Or.inr (Or.inr (Or.inl ⟨rfl, Or.inr ⟨_, rfl⟩⟩))⟩ (FL_cons ⟨_, _, _, _, _, "", ciX9, by decide, rfl, m_216, (fun h => by cases h), Or.inr (Or.inr (Or.inl ⟨rfl, Or.inr ⟨_, rfl⟩⟩))⟩ (FL_cons ⟨_, _, _, _, _, _, ciX10, by decide, rfl, m_282, (fun _ => rfl), Or.inl ⟨rfl, rfl⟩⟩ (FL_cons ⟨_, _, _, _, _, _, ciX10, by decide, rfl, m_277, (fun _ => rfl), Or.inl ⟨rfl, rfl⟩⟩ (FL_nil)))))
def GSX9 : List (Nat × Nat) := [(18, 5), (86, 6)]
theorem hGX9 : GOK RX9 GSX9 := G_cons5 m_212 (G_cons6 m_955 (G_nil))
def KCX9 : List (Nat × Int) := [(31, 33825)]
theorem hKX9 : KOK RX9 KCX9 := K_cons m_939 (K_nil)
def KLX9 : List Nat := []
theorem hLX9 : LOK RX9 KLX9 := L_nil
def FLX10 : FLT := [(9, false, 10, 3, false, 2), (15, false, 10, 4, false, 2), (18, false, 10, 5, false, 2), (21, false, 10, 6, false, 2), (24, false, 10, 7, false, 2), (27, false, 10, 8, false, 2), (30, false, 10, 9, false, 2), (33, false, 10, 10, false, 2), (36, false, 10, 11, false, 2), (39, false, 10, 12, false, 2), (42, false, 10, 13, false, 2), (45, false, 10, 14, true, 0), (51, false, 10, 15, false, 2), (54, false, 10, 0, true, 0), (57, false, 10, 1, true, 0), (60, false, 10, 2, true, 0)]
theorem hFX10 : FLOK RX10 FLX10 := FL_cons ⟨_, _, _, _, _, "", ciX10, by decide, rfl, m_291, (fun h => by cases h), Or.inr (Or.inr (Or.inl ⟨rfl, Or.inr ⟨_, rfl⟩⟩))⟩ (FL_cons ⟨_, _, _, _, _, "", ciX10, by decide, rfl, m_296, (fun h => by cases h), Or.inr (Or.inr (Or.inl ⟨rfl, Or.inr ⟨_, rfl⟩⟩))⟩ (FL_cons ⟨_, _, _, _, _, "", ciX10, by decide, rfl, m_300, (fun h => by cases h), Or.inr (Or.inr (Or.inl ⟨rfl, Or.inr ⟨_, rfl⟩⟩))⟩ (FL_cons ⟨_, _, _, _, _, "", ciX10, by decide, rfl, m_304, (fun h => by cases h), Or.inr (Or.inr (Or.inl ⟨rfl, Or.inr ⟨_, rfl⟩⟩))⟩ (FL_cons ⟨_, _, _, _, _, "", ciX10, by decide, rfl, m_306, (fun h => by cases h), Or.inr (Or.inr (Or.inl ⟨rfl, Or.inr ⟨_, rfl⟩⟩))⟩ (FL_cons ⟨_, _, _, _, _, "", ciX10, by decide, rfl, m_308, (fun h => by cases h), Or.inr (Or.inr (Or.inl ⟨rfl, Or.inr ⟨_, rfl⟩⟩))⟩ (FL_cons ⟨_, _, _, _, _, "", ciX10, by decide, rfl, m_310, (fun h => by cases h), Or.inr (Or.inr (Or.inl ⟨rfl, Or.inr ⟨_, rfl⟩⟩))⟩ (FL_cons ⟨_, _, _, _, _, "", ciX10, by decide, rfl, m_311, (fun h => by cases h), Or.inr (Or.inr (Or.inl ⟨rfl, Or.inr ⟨_, rfl⟩⟩))⟩ (FL_cons ⟨_, _, _, _, _, "", ciX10, by decide, rfl, m_312, (fun h => by cases h), Or.inr (Or.inr (Or.inl ⟨rfl, Or.inr ⟨_, rfl⟩⟩))⟩ (FL_cons ⟨_, _, _, _, _, "", ciX10, by decide, rfl, m_313, (fun h => by cases h), Or.inr (Or.inr (Or.inl ⟨rfl, Or.inr ⟨_, rfl⟩⟩))⟩ (FL_cons ⟨_, _, _, _, _, "", ciX10, by decide, rfl, m_314, (fun h => by cases h), Or.inr (Or.inr (Or.inl ⟨rfl, Or.inr ⟨_, rfl⟩⟩))⟩ (FL_cons ⟨_, _, _, _, _, "", ciX10, by decide, rfl, m_315, (fun _ => rfl), Or.inl ⟨rfl, rfl⟩⟩ (FL_cons ⟨_, _, _, _, _, "", ciX10, by decide, rfl, m_317, (fun h => by cases h), Or.inr (Or.inr (Or.inl ⟨rfl, Or.inr ⟨_, rfl⟩⟩))⟩ (FL_cons ⟨_, _, _, _, _, "", ciX10, by decide, rfl, m_272, (fun _ => rfl), Or.inl ⟨rfl, rfl⟩⟩ (FL_cons ⟨_, _, _, _, _, "", ciX10, by decide, rfl, m_280, (fun _ => rfl), Or.inl ⟨rfl, rfl⟩⟩ (FL_cons ⟨_, _, _, _, _, "", ciX10, by decide, rfl, m_285, (fun _ => rfl), Or.inl ⟨rfl, rfl⟩⟩ (FL_nil))))))))))))))))
def GSX10 : List (Nat × Nat) := []
theorem hGX10 : GOK RX10 GSX10 := G_nil
def KCX10 : List (Nat × Int) := []
theorem hKX10 : KOK RX10 KCX10 := K_nil
def KLX10 : List Nat := []
theorem hLX10 : LOK RX10 KLX10 := L_nil
def FLX11 : FLT := [(10, false, 11, 0, false, 2), (18, false, 11, 1, false, 2), (24, false, 11, 2, false, 2), (31, false, 11, 3, false, 2), (38, false, 11, 4, false, 2), (45, false, 11, 5, false, 2), (52, false, 11, 6, false, 2), (59, false, 11, 7, false, 2), (66, false, 11, 8, false, 2), (73, false, 11, 9, false, 2), (78, false, 11, 10, true, 2), (94, false, 11, 11, true, 0), (105, true, 10, 0, true, 0), (108, true, 10, 1, true, 0), (111, true, 10, 2, true, 0), (114, true, 10, 3, false, 2), (118, true, 10, 4, false, 2), (121, true, 10, 5, false, 2), (151, false, 11, 12, true, 0), (165, true, 4, 0, false, 2), (171, false, 11, 13, true, 0), (177, true, 4, 1, true, 0), (183, true, 4, 7, false, 2), (193, true, 1, 0, false, 2), (240, true, 7, 14, true, 0), (243, true, 7, 15, true, 0), (246, true, 7, 16, true, 0), (256, true, 10, 15, false, 2), (282, true, 0, 4, false, 2), (325, true, 8, 1, true, 0)]
theorem hFX11 : FLOK RX11 FLX11 := FL_cons ⟨_, _, _, _, _, "", ciX11, by decide, rfl, m_353, (fun h => by cases h), Or.inr (Or.inr (Or.inl ⟨rfl, Or.inl ⟨_, rfl⟩⟩))⟩ (FL_cons ⟨_, _, _, _, _, "", ciX11, by decide, rfl, m_354, (fun h => by cases h), Or.inr (Or.inr (Or.inl ⟨rfl, Or.inr ⟨_, rfl⟩⟩))⟩ (FL_cons ⟨_, _, _, _, _, "", ciX11, by decide, rfl, m_355, (fun h => by cases h), Or.inr (Or.inr (Or.inl ⟨rfl, Or.inr ⟨_, rfl⟩⟩))⟩ (FL_cons ⟨_, _, _, _, _, "", ciX11, by decide, rfl, m_356, (fun h => by cases h), Or.inr (Or.inr (Or.inl ⟨rfl, Or.inl ⟨_, rfl⟩⟩))⟩ (FL_cons ⟨_, _, _, _, _, "", ciX11, by decide, rfl, m_357, (fun h => by cases h), Or.inr (Or.inr (Or.inl ⟨rfl, Or.inl ⟨_, rfl⟩⟩))⟩ (FL_cons ⟨_, _, _, _, _, "", ciX11, by decide, rfl, m_358, (fun h => by cases h), Or.inr (Or.inr (Or.inl ⟨rfl, Or.inl ⟨_, rfl⟩⟩))⟩ (FL_cons ⟨_, _, _, _, _, "", ciX11, by decide, rfl, m_359, (fun h => by cases h), Or.inr (Or.inr (Or.inl ⟨rfl, Or.inl ⟨_, rfl⟩⟩))⟩ (FL_cons ⟨_, _, _, _, _, "", ciX11, by decide, rfl, m_360, (fun h => by cases h), Or.inr (Or.inr (Or.inl ⟨rfl, Or.inl ⟨_, rfl⟩⟩))⟩ (FL_cons ⟨_, _, _, _, _, "", ciX11, by decide, rfl, m_361, (fun h => by cases h), Or.inr (Or.inr (Or.inl ⟨rfl, Or.inl ⟨_, rfl⟩⟩))⟩ (FL_cons ⟨_, _, _, _, _, "", ciX11, by decide, rfl, m_362, (fun h => by cases h), Or.inr (Or.inr (Or.inl ⟨rfl, Or.inl ⟨_, rfl⟩⟩))⟩ (FL_cons ⟨_, _, _, _, _, "", ciX11, by decide, rfl, m_363, (fun _ => rfl), Or.inr (Or.inr (Or.inl ⟨rfl, Or.inl ⟨_, rfl⟩⟩))⟩ (FL_cons ⟨_, _, _, _, _, "", ciX11, by decide, rfl, m_364, (fun _ => rfl), Or.inl ⟨rfl, rfl⟩⟩ (FL_cons ⟨_, _, _, _, _, _, ciX10, by decide, rfl, m_276, (fun _ => rfl), Or.inl ⟨rfl, rfl⟩⟩ (FL_cons ⟨_, _, _, _, _, _, ciX10, by decide, rfl, m_284, (fun _ => rfl), Or.inl ⟨rfl, rfl⟩⟩ (FL_cons ⟨_, _, _, _, _, _, ciX10, by decide, rfl, m_289, (fun _ => rfl), Or.inl ⟨rfl, rfl⟩⟩ (FL_cons ⟨_, _, _, _, _, _, ciX10, by decide, rfl, m_293, (fun h => by cases h), Or.inr (Or.inr (Or.inl ⟨rfl, Or.inr ⟨_, rfl⟩⟩))⟩ (FL_cons ⟨_, _, _, _, _, _, ciX10, by decide, rfl, m_298, (fun h => by cases h), Or.inr (Or.inr (Or.inl ⟨rfl, Or.inr ⟨_, rfl⟩⟩))⟩ (FL_cons ⟨_, _, _, _, _, _, ciX10, by decide, rfl, m_302, (fun h => by cases h), Or.inr (Or.inr (Or.inl ⟨rfl, Or.inr ⟨_, rfl⟩⟩))⟩ (FL_cons ⟨_, _, _, _, _, "", ciX11, by decide, rfl, m_365, (fun _ => rfl), Or.inl ⟨rfl, rfl⟩⟩ (FL_cons ⟨_, _, _, _, _, _, ciX4, by decide, rfl, m_568, (fun h => by cases h), Or.inr (Or.inr (Or.inl ⟨rfl, Or.inl ⟨_, rfl⟩⟩))⟩ (FL_cons ⟨_, _, _, _, _, "", ciX11, by decide, rfl, m_366, (fun _ => rfl), Or.inl ⟨rfl, rfl⟩⟩ (FL_cons ⟨_, _, _, _, _, _, ciX4, by decide, rfl, m_571, (fun _ => rfl), Or.inl ⟨rfl, rfl⟩⟩ (FL_cons ⟨_, _, _, _, _, _, ciX4, by decide, rfl, m_584, (fun h => by cases h), Or.inr (Or.inr (Or.inl ⟨rfl, Or.inr ⟨_, rfl⟩⟩))⟩ (FL_cons ⟨_, _, _, _, _, _, ciX1, by decide, rfl, m_59, (fun h => by cases h), Or.inr (Or.inr (Or.inl ⟨rfl, Or.inr ⟨_, rfl⟩⟩))⟩ (FL_cons ⟨_, _, _, _, _, _, ciX7, by decide, rfl, m_127, (fun _ => rfl), Or.inl ⟨rfl, rfl⟩⟩ (FL_cons ⟨_, _, _, _, _, _, ciX7, by decide, rfl, m_129, (fun _ => rfl), Or.inl ⟨rfl, rfl⟩⟩ (FL_cons ⟨_, _, _, _, _, _, ciX7, by decide, rfl, m_131, (fun _ => rfl), Or.inl ⟨rfl, rfl⟩⟩ (FL_cons ⟨_, _, _, _, _, _, ciX10, by decide, rfl, m_319, (fun h => by cases h), Or.inr (Or.inr (Or.inl ⟨rfl, Or.inr ⟨_, rfl⟩⟩))⟩ (FL_cons ⟨_, _, _, _, _, _, ciX0, by decide, rfl, m_235, (fun h => by cases h), Or.inr (Or.inr (Or.inl ⟨rfl, Or.inr ⟨_, rfl⟩⟩))⟩ (FL_cons ⟨_, _, _, _, _, _, ciX8, by decide, rfl, m_38, (fun _ => rfl), Or.inl ⟨rfl, rfl⟩⟩ (FL_nil))))))))))))))))))))))))))))))
def GSX11 : List (Nat × Nat) := []
theorem hGX11 : GOK RX11 GSX11 := G_nil
def KCX11 : List (Nat × Int) := []
theorem hKX11 : KOK RX11 KCX11 := K_nil
def KLX11 : List Nat := [298]
theorem hLX11 : LOK RX11 KLX11 := L_cons m_1075 (L_nil)
def FLX12 : FLT := [(9, false, 12, 1, false, 2), (13, false, 12, 6, false, 2), (17, false, 12, 7, false, 2), (20, false, 12, 8, false, 2), (23, false, 12, 9, false, 2), (26, false, 12, 10, false, 2), (29, false, 12, 11, false, 2), (32, false, 12, 12, false, 2), (35, false, 12, 13, false, 2), (38, false, 12, 14, false, 2), (41, false, 12, 15, false, 2), (44, false, 12, 16, false, 2), (47, false, 12, 17, false, 2), (51, false, 12, 19, true, 0), (55, false, 12, 20, true, 0), (58, false, 12, 21, false, 2), (61, false, 12, 22, false, 2), (64, false, 12, 23, false, 2), (67, false, 12, 24, false, 2), (70, false, 12, 25, false, 2), (73, false, 12, 26, false, 2), (76, false, 12, 28, false, 2), (79, false, 12, 29, false, 2), (82, false, 12, 30, false, 2), (85, false, 12, 31, false, 2), (88, false, 12, 32, false, 2), (91, false, 12, 33, false, 2), (95, false, 12, 34, false, 2), (98, false, 12, 35, false, 2), (101, false, 12, 36, false, 2), (104, false, 12, 46, false, 2), (107, false, 12, 47, false, 2), (110, false, 12, 48, false, 2), (114, false, 12, 49, false, 2), (117, false, 12, 50, false, 2), (120, false, 12, 51, false, 2), (123, false, 12, 52, false, 2), (126, false, 12, 53, false, 2), (129, false, 12, 54, false, 2), (132, false, 12, 55, false, 2), (135, false, 12, 56, false, 2), (138, false, 12, 57, false, 2), (141, false, 12, 58, false, 2), (144, false, 12, 59, false, 2), (148, false, 12, 60, false, 2), (151, false, 12, 61, false, 2), (154, false, 12, 62, false, 2), (157, false, 12, 63, false, 2), (160, false, 12, 0, true, 0), (163, false, 12, 2, true, 0), (174, false, 12, 3, true, 0), (181, false, 12, 4, true, 0), (195, false, 12, 5, true, 0), (212, false, 12, 18, true, 0), (244, false, 12, 27, true, 0), (283, false, 12, 37, true, 0), (286, false, 12, 38, true, 0), (289, false, 12, 39, true, 0), (321, false, 12, 44, true, 0), (324, false, 12, 45, true, 0)]
theorem hFX12 : FLOK RX12 FLX12 := FL_cons ⟨_, _, _, _, _, "", ciX12, by decide, rfl, m_1232, (fun h => by cases h), Or.inr (Or.inr (Or.inl ⟨rfl, Or.inr ⟨_, rfl⟩⟩))⟩ (FL_cons ⟨_, _, _, _, _, "", ciX12, by decide, rfl, m_1237, (fun h => by cases h), Or.inr (Or.inr (Or.inl ⟨rfl, Or.inr ⟨_, rfl⟩⟩))⟩ (FL_cons ⟨_, _, _, _, _, "", ciX12, by decide, rfl, m_1238, (fun h => by cases h), Or.inr (Or.inr (Or.inl ⟨rfl, Or.inr ⟨_, rfl⟩⟩))⟩ (FL_cons ⟨_, _, _, _, _, "", ciX12, by decide, rfl, m_1239, (fun h => by cases h), Or.inr (Or.inr (Or.inl ⟨rfl, Or.inr ⟨_, rfl⟩⟩))⟩ (FL_cons ⟨_, _, _, _, _, "", ciX12, by decide, rfl, m_1240, (fun h => by cases h), Or.inr (Or.inr (Or.inl ⟨rfl, Or.inr ⟨_, rfl⟩⟩))⟩ (FL_cons ⟨_, _, _, _, _, "", ciX12, by decide, rfl, m_1241, (fun h => by cases h), Or.inr (Or.inr (Or.inl ⟨rfl, Or.inr ⟨_, rfl⟩⟩))⟩ (FL_cons ⟨_, _, _, _, _, "", ciX12, by decide, rfl, m_1242, (fun h => by cases h), Or.inr (Or.inr (Or.inl ⟨rfl, Or.inr ⟨_, rfl⟩⟩))⟩ (FL_cons ⟨_, _, _, _, _, "", ciX12, by decide, rfl, m_1243, (fun h => by cases h), Or.inr (Or.inr (Or.inl ⟨rfl, Or.inr ⟨_, rfl⟩⟩))⟩ (FL_cons ⟨_, _, _, _, _, "", ciX12, by decide, rfl, m_1244, (fun h => by cases h), Or.inr (Or.inr (Or.inl ⟨rfl, Or.inr ⟨_, rfl⟩⟩))⟩ (FL_cons ⟨_, _, _, _, _, "", ciX12, by decide, rfl, m_1245, (fun h => by cases h), Or.inr (Or.inr (Or.inl ⟨rfl, Or.inr ⟨_, rfl⟩⟩))⟩ (FL_cons ⟨_, _, _, _, _, "", ciX12, by decide, rfl, m_1246, (fun h => by cases h), Or.inr (Or.inr (Or.inl ⟨rfl, Or.inr ⟨_, rfl⟩⟩))⟩ (FL_cons ⟨_, _, _, _, _, "", ciX12, by decide, rfl, m_1247, (fun h => by cases h), Or.inr (Or.inr (Or.inl ⟨rfl, Or.inr ⟨_, rfl⟩⟩))⟩ (FL_cons ⟨_, _, _, _, _, "", ciX12, by decide, rfl, m_1248, (fun h => by cases h), Or.inr (Or.inr (Or.inl ⟨rfl, Or.inr ⟨_, rfl⟩⟩))⟩ (FL_cons ⟨_, _, _, _, _, "", ciX12, by decide, rfl, m_1250, (fun _ => rfl), Or.inl ⟨rfl, rfl⟩⟩ (FL_cons ⟨_, _, _, _, _, "", ciX12, by decide, rfl, m_1251, (fun _ => rfl), Or.inl ⟨rfl, rfl⟩⟩ (FL_cons ⟨_, _, _, _, _, "", ciX12, by decide, rfl, m_1252, (fun h => by cases h), Or.inr (Or.inr (Or.inl ⟨rfl, Or.inr ⟨_, rfl⟩⟩))⟩ (FL_cons ⟨_, _, _, _, _, "", ciX12, by decide, rfl, m_1253, (fun h => by cases h), Or.inr (Or.inr (Or.inl ⟨rfl, Or.inr ⟨_, rfl⟩⟩))⟩ (FL_cons ⟨_, _, _, _, _, "", ciX12, by decide, rfl, m_1254, (fun h => by cases h), Or.inr (Or.inr (Or.inl ⟨rfl, Or.inr ⟨_, rfl⟩⟩))⟩ (FL_cons ⟨_, _, _, _, _, "", ciX12, by decide, rfl, m_1255, (fun h => by cases h), Or.inr (Or.inr (Or.inl ⟨rfl, Or.inr ⟨_, rfl⟩⟩))⟩ (FL_cons ⟨_, _, _, _, _, "", ciX12, by decide, rfl, m_1256, (fun h => by cases h), Or.inr (Or.inr (Or.inl ⟨rfl, Or.inr ⟨_, rfl⟩⟩))⟩ (FL_cons ⟨_, _, _, _, _, "", ciX12, by decide, rfl, m_1257, (fun h => by cases h), Or.inr (Or.inr (Or.inl ⟨rfl, Or.inr ⟨_, rfl⟩⟩))⟩ (FL_cons ⟨_, _, _, _, _, "", ciX12, by decide, rfl, m_1259, (fun h => by cases h), Or.inr (Or.inr (Or.inl ⟨rfl, Or.inr ⟨_, rfl⟩⟩))⟩ (FL_cons ⟨_, _, _, _, _, "", ciX12, by decide, rfl, m_1260, (fun h => by cases h), Or.inr (Or.inr (Or.inl ⟨rfl, Or.inr ⟨_, rfl⟩⟩))⟩ (FL_cons ⟨_, _, _, _, _, "", ciX12, by decide, rfl, m_1261, (fun h => by cases h), Or.inr (Or.inr (Or.inl ⟨rfl, Or.inr ⟨_, rfl⟩⟩))⟩ (FL_cons ⟨_, _, _, _, _, "", ciX12, by decide, rfl, m_1262, (fun h => by cases h), Or.inr (Or.inr (Or.inl ⟨rfl, Or.inr ⟨_, rfl⟩⟩))⟩ (FL_cons ⟨_, _, _, _, _, "", ciX12, by decide, rfl, m_1263, (fun h => by cases h), Or.inr (Or.inr (Or.inl ⟨rfl, Or.inr ⟨_, rfl⟩⟩))⟩ (FL_cons ⟨_, _, _, _, _, "", ciX12, by decide, rfl, m_1264, (fun h => by cases h), Or.inr (Or.inr (Or.inl ⟨rfl, Or.inr ⟨_, rfl⟩⟩))⟩ (FL_cons ⟨_, _, _, _, _, "", ciX12, by decide, rfl, m_1265, (fun h => by cases h), Or.inr (Or.inr (Or.inl ⟨rfl, Or.inr ⟨_, rfl⟩⟩))⟩ (FL_cons ⟨_, _, _, _, _, "", ciX12, by decide, rfl, m_1266, (fun h => by cases h), Or.inr (Or.inr (Or.inl ⟨rfl, Or.inr ⟨_, rfl⟩⟩))⟩ (FL_cons ⟨_, _, _, _, _, "", ciX12, by decide, rfl, m_1267, (fun h => by cases h), Or.inr (Or.inr (Or.inl ⟨rfl, Or.inr ⟨_, rfl⟩⟩))⟩ (FL_cons ⟨_, _, _, _, _, "", ciX12, by decide, rfl, m_1273, (fun h => by cases h), Or.inr (Or.inr (Or.inl ⟨rfl, Or.inr ⟨_, rfl⟩⟩))⟩ (FL_cons ⟨_, _, _, _, _, "", ciX12, by decide, rfl, m_1274, (fun h => by cases h), Or.inr (Or.inr (Or.inl ⟨rfl, Or.inr ⟨_, rfl⟩⟩))⟩ (FL_cons ⟨_, _, _, _, _, "", ciX12, by decide, rfl, m_1275, (fun h => by cases h), Or.inr (Or.inr (Or.inl ⟨rfl, Or.inr ⟨_, rfl⟩⟩))⟩ (FL_cons ⟨_, _, _, _, _, "", ciX12, by decide, rfl, m_1276, (fun h => by cases h), Or.inr (Or.inr (Or.inl ⟨rfl, Or.inr ⟨_, rfl⟩⟩))⟩ (FL_cons ⟨_, _, _, _, _, "", ciX12, by decide, rfl, m_1277, (fun h => by cases h), Or.inr (Or.inr (Or.inl ⟨rfl, Or.inr ⟨_, rfl⟩⟩))⟩ (FL_cons ⟨_, _, _, _, _, "", ciX12, by decide, rfl, m_1278, (fun h => by cases h), Or.inr (Or.inr (Or.inl ⟨rfl, Or.inr ⟨_, rfl⟩⟩))⟩ (FL_cons ⟨_, _, _, _, _, "", ciX12, by decide, rfl, m_1279, (fun h => by cases h), Or.inr (Or.inr (Or.inl ⟨rfl, Or.inr ⟨_, rfl⟩⟩))⟩ (FL_cons ⟨_, _, _, _, _, "", ciX12, by decide, rfl, m_1280, (fun h => by cases h), Or.inr (Or.inr (Or.inl ⟨rfl, Or.inr ⟨_, rfl⟩⟩))⟩ (FL_cons ⟨_, _, _, _, _, "", ciX12, by decide, rfl, m_1281, (fun h => by cases h), Or.inr (Or.inr (Or.inl ⟨rfl, Or.inr ⟨_, rfl⟩⟩))⟩ (FL_cons ⟨_, _, _, _, _, "", ciX12, by decide, rfl, m_1282, (fun h => by cases h), Or.inr (Or.inr (Or.inl ⟨rfl, Or.inr ⟨_, rfl⟩⟩))⟩ (FL_cons ⟨_, _, _, _, _, "", ciX12, by decide, rfl, m_1283, (fun h => by cases h), Or.inr (Or.inr (Or.inl ⟨rfl, Or.inr ⟨_, rfl⟩⟩))⟩ (FL_cons ⟨_, _, _, _, _, "", ciX12, by decide, rfl, m_1284, (fun h => by cases h), Or.inr (Or.inr (Or.inl ⟨rfl, Or.inr ⟨_, rfl⟩⟩))⟩ (FL_cons ⟨_, _, _, _, _, "", ciX12, by decide, rfl, m_1285, (fun h => by cases h), Or.inr (Or.inr (Or.inl ⟨rfl, Or.inr ⟨_, rfl⟩⟩))⟩ (FL_cons ⟨_, _, _, _, _, "", ciX12, by decide, rfl, m_1286, (fun h => by cases h), Or.inr (Or.inr (Or.inl ⟨rfl, Or.inr ⟨_, rfl⟩⟩))⟩ (FL_cons ⟨_, _, _, _, _, "", ciX12, by decide, rfl, m_1287, (fun h => by cases h), Or.inr (Or.inr (Or.inl ⟨rfl, Or.inr ⟨_, rfl⟩⟩))⟩ (FL_cons ⟨_, _, _, _, _, "", ciX12, by decide, rfl, m_1288, (fun h => by cases h), Or.inr (Or.inr (Or.inl ⟨rfl, Or.inr ⟨_, rfl⟩⟩))⟩ (FL_cons ⟨_, _, _, _, _, "", ciX12, by decide, rfl, m_1289, (fun h => by cases h), Or.inr (Or.inr (Or.inl ⟨rfl, Or.inr ⟨_, rfl⟩⟩))⟩ (FL_cons ⟨_, _, _, _, _, "", ciX12, by decide, rfl, m_1290, (fun h => by cases h), Or.inr (Or.inr (Or.inl ⟨rfl, Or.inr ⟨_, rfl⟩⟩))⟩ (FL_cons ⟨_, _, _, _, _, "", ciX12, by decide, rfl, m_1231, (fun _ => rfl), Or.inl ⟨rfl, rfl⟩⟩ (FL_cons ⟨_, _, _, _, _, "", ciX12, by decide, rfl, m_1233, (fun _ => rfl), Or.inl ⟨rfl, rfl⟩⟩ (FL_cons ⟨_, _, _, _, _, "", ciX12, by decide, rfl, m_1234, (fun _ => rfl), Or.inl ⟨rfl, rfl⟩⟩ (FL_cons ⟨_, _, _, _, _, "", ciX12, by decide, rfl, m_1235, (fun _ => rfl), Or.inl ⟨rfl, rfl⟩⟩ (FL_cons ⟨_, _, _, _, _, "", ciX12, by decide, rfl, m_1236, (fun _ => rfl), Or.inl ⟨rfl, rfl⟩⟩ (FL_cons ⟨_, _, _, _, _, "", ciX12, by decide, rfl, m_1249, (fun _ => rfl), Or.inl ⟨rfl, rfl⟩⟩ (FL_cons ⟨_, _, _, _, _, "", ciX12, by decide, rfl, m_1258, (fun _ => rfl), Or.inl ⟨rfl, rfl⟩⟩ (FL_cons ⟨_, _, _, _, _, "", ciX12, by decide, rfl, m_1268, (fun _ => rfl), Or.inl ⟨rfl, rfl⟩⟩ (FL_cons ⟨_, _, _, _, _, "", ciX12, by decide, rfl, m_1269, (fun _ => rfl), Or.inl ⟨rfl, rfl⟩⟩ (FL_cons ⟨_, _, _, _, _, "", ciX12, by decide, rfl, m_1270, (fun _ => rfl), Or.inl ⟨rfl, rfl⟩⟩ (FL_cons ⟨_, _, _, _, _, "", ciX12, by decide, rfl, m_1271, (fun _ => rfl), Or.inl ⟨rfl, rfl⟩⟩ (FL_cons ⟨_, _, _, _, _, "", ciX12, by decide, rfl, m_1272, (fun _ => rfl), Or.inl ⟨rfl, rfl⟩⟩ (FL_nil))))))))))))))))))))))))))))))))))))))))))))))))))))))))))))
def GSX12 : List (Nat × Nat) := []
theorem hGX12 : GOK RX12 GSX12 := G_nil
def KCX12 : List (Nat × Int) := [(94, 425984), (113, 65536)]
theorem hKX12 : KOK RX12 KCX12 := K_cons m_1229 (K_cons m_1230 (K_nil))
def KLX12 : List Nat := [392, 394, 396]
theorem hLX12 : LOK RX12 KLX12 := L_cons m_1759 (L_cons m_1768 (L_cons m_1769 (L_nil)))

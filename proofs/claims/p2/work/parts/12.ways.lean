/-- the ways to know: the class counts how many know, the reference the sets of those that know -/
abbrev lf (l : List Int64) : Nat → Int64 := fun j => l.getD j 0
theorem lf_set {l : List Int64} {i : Nat} {x : Int64} (h : i < l.length) : vp_updL (lf l) i x = lf (l.set i x) := by
  funext j
  simp only [vp_updL, lf, List.getD_eq_getElem?_getD, List.getElem?_set]
  by_cases q : j = i
  · subst q; simp [h]
  · rw [if_neg q, if_neg (fun z => q z.symm)]
theorem lf_out {l : List Int64} {N : Nat} (h : l.length = N) : ∀ j, N ≤ j → lf l j = 0 := fun j hj => by
  simp only [lf, List.getD_eq_getElem?_getD]
  rw [List.getElem?_eq_none (by omega)]
  rfl
def z5 : List Int64 := [0, 0, 0, 0, 0]
def z16 : List Int64 := [0, 0, 0, 0, 0, 0, 0, 0, 0, 0, 0, 0, 0, 0, 0, 0]
theorem z5_of {f f' : Nat → Int64} (h0 : ∀ j, 5 ≤ j → f j = 0) (h : ∀ j, f' j = if j < 5 then 0 else f j) : f' = lf z5 := by
  funext j
  rw [h]
  by_cases q : j < 5
  · rw [if_pos q]
    rcases (show j = 0 ∨ j = 1 ∨ j = 2 ∨ j = 3 ∨ j = 4 by omega) with rfl | rfl | rfl | rfl | rfl <;> rfl
  · rw [if_neg q, h0 j (by omega), lf_out (N := 5) rfl j (by omega)]
theorem z16_fn : (fun _ => 0) = lf z16 := by
  funext j
  by_cases q : j < 16
  · rcases (show j = 0 ∨ j = 1 ∨ j = 2 ∨ j = 3 ∨ j = 4 ∨ j = 5 ∨ j = 6 ∨ j = 7 ∨ j = 8 ∨ j = 9 ∨ j = 10 ∨ j = 11 ∨ j = 12 ∨ j = 13 ∨ j = 14 ∨ j = 15 by omega) with rfl | rfl | rfl | rfl | rfl | rfl | rfl | rfl | rfl | rfl | rfl | rfl | rfl | rfl | rfl | rfl <;> rfl
  · rw [lf_out (N := 16) rfl j (by omega)]
def othN (o p : Nat) : Nat := if p < o then p else p + 1
theorem oth_n {o p : Nat} (ho : o < 2 ^ 31) (hp : p < 2 ^ 31) : oth (nI o) (nI p) = nI (othN o p) := by
  unfold oth othN
  by_cases h : p < o
  · rw [if_pos ((nI_ltI hp ho).mpr h), if_pos h]
  · rw [if_neg (fun q => h ((nI_ltI hp ho).mp q)), if_neg h, nI_1]
def pw (b : Nat) : Nat → Nat
  | 0 => 1
  | i + 1 => pw b i * b
theorem pw81 : ∀ n, n < 5 → ∀ k, k < 5 → pw (n - 1) k ≤ 81 := by decide +kernel
def pop4 (k : Nat) : Nat := k % 2 + k / 2 % 2 + k / 4 % 2 + k / 8 % 2
theorem pop4_le : ∀ k, k < 16 → pop4 k ≤ 4 := by decide +kernel
def gk (n kw c : Nat) : Nat → Nat × Nat
  | 0 => (2 ^ kw - 1, c)
  | o + 1 => ((gk n kw c o).1 ||| 2 ^ othN o ((gk n kw c o).2 % (n - 1)), (gk n kw c o).2 / (n - 1))
theorem p2_16 : ∀ k, k < 5 → 2 ^ k - 1 < 16 := by decide +kernel
theorem p2_4 : ∀ k, k < 4 → 2 ^ k < 16 := by decide +kernel
theorem oth_4 {n o p : Nat} (hn : 2 ≤ n) (hn4 : n ≤ 4) (ho : o < 4) (hp : p < n - 1) : othN o p < 4 := by
  unfold othN; split <;> omega
theorem gk_in {n kw c : Nat} (hn : 2 ≤ n) (hn4 : n ≤ 4) (hk : kw ≤ 4) : ∀ o, o ≤ 4 → (gk n kw c o).1 < 16 ∧ (gk n kw c o).2 ≤ c := by
  intro o
  induction o with
  | zero => exact fun _ => ⟨p2_16 kw (by omega), Nat.le_refl c⟩
  | succ o ih =>
    intro ho
    obtain ⟨h1, h2⟩ := ih (by omega)
    exact ⟨Nat.or_lt_two_pow (n := 4) h1 (p2_4 _ (oth_4 hn hn4 (by omega) (Nat.mod_lt _ (by omega)))), Nat.le_trans (Nat.div_le_self _ _) h2⟩
def goL (n kw : Nat) (x : Int64) (l : List Int64) : Nat → List Int64
  | 0 => l
  | c + 1 => (goL n kw x l c).set (pop4 (gk n kw c kw).1) ((goL n kw x l c).getD (pop4 (gk n kw c kw).1) 0 + x)
theorem goL_len (n kw : Nat) (x : Int64) (l : List Int64) : ∀ c, (goL n kw x l c).length = l.length := by
  intro c
  induction c with
  | zero => rfl
  | succ c ih => rw [goL, List.length_set, ih]
def hcL (n : Nat) (la : List Int64) : Nat → List Int64
  | 0 => z5
  | k + 1 => if la.getD (k + 1) 0 = 0 then hcL n la k else goL n (k + 1) (la.getD (k + 1) 0 * lN (pw (n - 1) (n - (k + 1)))) (hcL n la k) (pw (n - 1) (k + 1))
theorem hcL_len (n : Nat) (la : List Int64) : ∀ k, (hcL n la k).length = 5 := by
  intro k
  induction k with
  | zero => rfl
  | succ k ih =>
    rw [hcL]
    split
    · exact ih
    · rw [goL_len, ih]
def stC (n : Nat) : Nat → List Int64
  | 0 => [0, 1, 0, 0, 0]
  | t + 1 => hcL n (stC n t) n
theorem stC_len (n t : Nat) : (stC n t).length = 5 := by
  cases t with
  | zero => rfl
  | succ t => exact hcL_len n _ n
theorem lf01 {f : Nat → Int64} (h : vp_updL (lf z5) (1 : Int32).toNatClampNeg 1 = f) : f = lf [0, 1, 0, 0, 0] := by
  rw [← h, show (1 : Int32).toNatClampNeg = 1 by decide, lf_set (by decide)]
  rfl
-- the bits of a number, as the class Integer counts them
def us (x k : Int32) : Int32 := (x.toUInt32 >>> (k.toUInt32 &&& Int32.toUInt32 31)).toInt32
def bc1 (x : Int32) : Int32 := x - (us x 1 &&& 1431655765)
def bc2 (x : Int32) : Int32 := (x &&& 858993459) + (us x 2 &&& 858993459)
def bc3 (x : Int32) : Int32 := (x + us x 4) &&& 252645135
def bc4 (x : Int32) : Int32 := x + us x 8
def bc5 (x : Int32) : Int32 := x + us x 16
def bcv (x : Int32) : Int32 := bc5 (bc4 (bc3 (bc2 (bc1 x)))) &&& 63
theorem bc_n : ∀ k, k < 16 → bcv (nI k) = nI (pop4 k) := by decide +kernel
-- small words
theorem shl_n : ∀ k, k < 5 → (1 : Int32) <<< (nI k &&& 31) = nI (2 ^ k) := by decide +kernel
theorem shr_n : ∀ kw, kw < 16 → ∀ f, f < 4 → nI kw >>> (nI f &&& 31) = nI (kw / 2 ^ f) := by decide +kernel
theorem and_1 : ∀ k, k < 16 → nI k &&& 1 = nI (k % 2) := by decide +kernel
-- the reference
def chO (st : Nat → List Int64 → List Int64) (fr : Nat) : Nat → List Int64 → List Int64
  | 0, l => l
  | o + 1, l => if o = fr then chO st fr o l else st o (chO st fr o l)
def chL (n kw : Nat) (x : Int64) : Nat → Nat → Nat → List Int64 → List Int64
  | 0, _, ca, l => l.set (kw ||| ca) (l.getD (kw ||| ca) 0 + x)
  | r + 1, fr, ca, l => chO (fun o l => chL n kw x r (fr + 1) (if kw / 2 ^ fr % 2 = 1 then ca ||| 2 ^ o else ca) l) fr n l
theorem chO_len {st : Nat → List Int64 → List Int64} (fr : Nat) {l : List Int64} (h : ∀ o l, (st o l).length = l.length) : ∀ o, (chO st fr o l).length = l.length := by
  intro o
  induction o with
  | zero => rfl
  | succ o ih =>
    rw [chO]
    split
    · exact ih
    · rw [h, ih]
theorem chL_len (n kw : Nat) (x : Int64) : ∀ (r fr ca : Nat) (l : List Int64), (chL n kw x r fr ca l).length = l.length := by
  intro r
  induction r with
  | zero => intro fr ca l; rw [chL, List.length_set]
  | succ r ih => intro fr ca l; rw [chL, chO_len fr (fun o l => ih _ _ l)]
def seL (n : Nat) (la : List Int64) : Nat → List Int64
  | 0 => z16
  | q + 1 => if la.getD q 0 ≤ 0 then seL n la q else chL n q (la.getD q 0) n 0 0 (seL n la q)
theorem seL_len (n : Nat) (la : List Int64) : ∀ q, (seL n la q).length = 16 := by
  intro q
  induction q with
  | zero => rfl
  | succ q ih =>
    rw [seL]
    split
    · exact ih
    · rw [chL_len, ih]
def m0L : Nat → List Int64
  | 0 => z16
  | i + 1 => (m0L i).set i (if i = 1 then 1 else 0)
theorem m0L_len : ∀ i, (m0L i).length = 16 := by
  intro i
  induction i with
  | zero => rfl
  | succ i ih => rw [m0L, List.length_set, ih]
def stM (n : Nat) : Nat → List Int64
  | 0 => m0L 16
  | t + 1 => seL n (stM n t) (2 ^ n)
theorem stM_len (n t : Nat) : (stM n t).length = 16 := by
  cases t with
  | zero => rfl
  | succ t => exact seL_len n _ _
/-- cell by cell from another list -/
def cpL (la lb : List Int64) : Nat → List Int64
  | 0 => la
  | i + 1 => (cpL la lb i).set i (lb.getD i 0)
theorem cpL_len (la lb : List Int64) : ∀ i, (cpL la lb i).length = la.length := by
  intro i
  induction i with
  | zero => rfl
  | succ i ih => rw [cpL, List.length_set, ih]
theorem cpL_at (la lb : List Int64) : ∀ i, i ≤ la.length → ∀ j, j < i → (cpL la lb i).getD j 0 = lb.getD j 0 := by
  intro i
  induction i with
  | zero => intro _ j hj; exact absurd hj (by omega)
  | succ i ih =>
    intro hi j hj
    have hs : i < (cpL la lb i).length := by rw [cpL_len]; omega
    have h := congrFun (lf_set (l := cpL la lb i) (i := i) (x := lb.getD i 0) hs) j
    rw [cpL]
    refine h.symm.trans ?_
    unfold vp_updL
    by_cases q : j = i
    · rw [if_pos q, q]
    · rw [if_neg q]; exact ih (by omega) j (by omega)
theorem cpL_all {la lb : List Int64} {N : Nat} (ha : la.length = N) (hb : lb.length = N) : lf (cpL la lb N) = lf lb := by
  funext j
  by_cases q : j < N
  · exact cpL_at la lb N (by omega) j q
  · rw [lf_out (N := N) ((cpL_len la lb N).trans ha) j (by omega), lf_out hb j (by omega)]
theorem z16_at (j : Nat) : z16.getD j 0 = 0 := (congrFun z16_fn j).symm
def smM (l : List Int64) (k : Nat) : Nat → Int64
  | 0 => 0
  | i + 1 => smM l k i + (if pop4 i = k then l.getD i 0 else 0)
theorem tC_2_0 : stC 2 0 = [0, 1, 0, 0, 0] := by decide +kernel
theorem tM_2_0 : stM 2 0 = [0, 1, 0, 0, 0, 0, 0, 0, 0, 0, 0, 0, 0, 0, 0, 0] := by decide +kernel
theorem tC_2_1 : stC 2 1 = [0, 0, 1, 0, 0] := by rw [stC, tC_2_0]; decide +kernel
theorem tM_2_1 : stM 2 1 = [0, 0, 0, 1, 0, 0, 0, 0, 0, 0, 0, 0, 0, 0, 0, 0] := by rw [stM, tM_2_0]; decide +kernel
theorem tC_2_2 : stC 2 2 = [0, 0, 1, 0, 0] := by rw [stC, tC_2_1]; decide +kernel
theorem tM_2_2 : stM 2 2 = [0, 0, 0, 1, 0, 0, 0, 0, 0, 0, 0, 0, 0, 0, 0, 0] := by rw [stM, tM_2_1]; decide +kernel
theorem tC_2_3 : stC 2 3 = [0, 0, 1, 0, 0] := by rw [stC, tC_2_2]; decide +kernel
theorem tM_2_3 : stM 2 3 = [0, 0, 0, 1, 0, 0, 0, 0, 0, 0, 0, 0, 0, 0, 0, 0] := by rw [stM, tM_2_2]; decide +kernel
theorem tC_2_4 : stC 2 4 = [0, 0, 1, 0, 0] := by rw [stC, tC_2_3]; decide +kernel
theorem tM_2_4 : stM 2 4 = [0, 0, 0, 1, 0, 0, 0, 0, 0, 0, 0, 0, 0, 0, 0, 0] := by rw [stM, tM_2_3]; decide +kernel
theorem tC_2_5 : stC 2 5 = [0, 0, 1, 0, 0] := by rw [stC, tC_2_4]; decide +kernel
theorem tM_2_5 : stM 2 5 = [0, 0, 0, 1, 0, 0, 0, 0, 0, 0, 0, 0, 0, 0, 0, 0] := by rw [stM, tM_2_4]; decide +kernel
theorem tC_2_6 : stC 2 6 = [0, 0, 1, 0, 0] := by rw [stC, tC_2_5]; decide +kernel
theorem tM_2_6 : stM 2 6 = [0, 0, 0, 1, 0, 0, 0, 0, 0, 0, 0, 0, 0, 0, 0, 0] := by rw [stM, tM_2_5]; decide +kernel
theorem tC_2_7 : stC 2 7 = [0, 0, 1, 0, 0] := by rw [stC, tC_2_6]; decide +kernel
theorem tM_2_7 : stM 2 7 = [0, 0, 0, 1, 0, 0, 0, 0, 0, 0, 0, 0, 0, 0, 0, 0] := by rw [stM, tM_2_6]; decide +kernel
theorem tC_2_8 : stC 2 8 = [0, 0, 1, 0, 0] := by rw [stC, tC_2_7]; decide +kernel
theorem tM_2_8 : stM 2 8 = [0, 0, 0, 1, 0, 0, 0, 0, 0, 0, 0, 0, 0, 0, 0, 0] := by rw [stM, tM_2_7]; decide +kernel
theorem tC_3_0 : stC 3 0 = [0, 1, 0, 0, 0] := by decide +kernel
theorem tM_3_0 : stM 3 0 = [0, 1, 0, 0, 0, 0, 0, 0, 0, 0, 0, 0, 0, 0, 0, 0] := by decide +kernel
theorem tC_3_1 : stC 3 1 = [0, 0, 8, 0, 0] := by rw [stC, tC_3_0]; decide +kernel
theorem tM_3_1 : stM 3 1 = [0, 0, 0, 4, 0, 4, 0, 0, 0, 0, 0, 0, 0, 0, 0, 0] := by rw [stM, tM_3_0]; decide +kernel
theorem tC_3_2 : stC 3 2 = [0, 0, 16, 48, 0] := by rw [stC, tC_3_1]; decide +kernel
theorem tM_3_2 : stM 3 2 = [0, 0, 0, 8, 0, 8, 0, 48, 0, 0, 0, 0, 0, 0, 0, 0] := by rw [stM, tM_3_1]; decide +kernel
theorem tC_3_3 : stC 3 3 = [0, 0, 32, 480, 0] := by rw [stC, tC_3_2]; decide +kernel
theorem tM_3_3 : stM 3 3 = [0, 0, 0, 16, 0, 16, 0, 480, 0, 0, 0, 0, 0, 0, 0, 0] := by rw [stM, tM_3_2]; decide +kernel
theorem tC_3_4 : stC 3 4 = [0, 0, 64, 4032, 0] := by rw [stC, tC_3_3]; decide +kernel
theorem tM_3_4 : stM 3 4 = [0, 0, 0, 32, 0, 32, 0, 4032, 0, 0, 0, 0, 0, 0, 0, 0] := by rw [stM, tM_3_3]; decide +kernel
theorem tC_3_5 : stC 3 5 = [0, 0, 128, 32640, 0] := by rw [stC, tC_3_4]; decide +kernel
theorem tM_3_5 : stM 3 5 = [0, 0, 0, 64, 0, 64, 0, 32640, 0, 0, 0, 0, 0, 0, 0, 0] := by rw [stM, tM_3_4]; decide +kernel
theorem tC_3_6 : stC 3 6 = [0, 0, 256, 261888, 0] := by rw [stC, tC_3_5]; decide +kernel
theorem tM_3_6 : stM 3 6 = [0, 0, 0, 128, 0, 128, 0, 261888, 0, 0, 0, 0, 0, 0, 0, 0] := by rw [stM, tM_3_5]; decide +kernel
theorem tC_3_7 : stC 3 7 = [0, 0, 512, 2096640, 0] := by rw [stC, tC_3_6]; decide +kernel
theorem tM_3_7 : stM 3 7 = [0, 0, 0, 256, 0, 256, 0, 2096640, 0, 0, 0, 0, 0, 0, 0, 0] := by rw [stM, tM_3_6]; decide +kernel
theorem tC_3_8 : stC 3 8 = [0, 0, 1024, 16776192, 0] := by rw [stC, tC_3_7]; decide +kernel
theorem tM_3_8 : stM 3 8 = [0, 0, 0, 512, 0, 512, 0, 16776192, 0, 0, 0, 0, 0, 0, 0, 0] := by rw [stM, tM_3_7]; decide +kernel
theorem tC_4_0 : stC 4 0 = [0, 1, 0, 0, 0] := by decide +kernel
theorem tM_4_0 : stM 4 0 = [0, 1, 0, 0, 0, 0, 0, 0, 0, 0, 0, 0, 0, 0, 0, 0] := by decide +kernel
theorem tC_4_1 : stC 4 1 = [0, 0, 81, 0, 0] := by rw [stC, tC_4_0]; decide +kernel
theorem tM_4_1 : stM 4 1 = [0, 0, 0, 27, 0, 27, 0, 0, 0, 27, 0, 0, 0, 0, 0, 0] := by rw [stM, tM_4_0]; decide +kernel
theorem tC_4_2 : stC 4 2 = [0, 0, 729, 4374, 1458] := by rw [stC, tC_4_1]; decide +kernel
theorem tM_4_2 : stM 4 2 = [0, 0, 0, 243, 0, 243, 0, 1458, 0, 243, 0, 1458, 0, 1458, 0, 1458] := by rw [stM, tM_4_1]; decide +kernel
theorem tC_4_3 : stC 4 3 = [0, 0, 6561, 144342, 380538] := by rw [stC, tC_4_2]; decide +kernel
theorem tM_4_3 : stM 4 3 = [0, 0, 0, 2187, 0, 2187, 0, 48114, 0, 2187, 0, 48114, 0, 48114, 0, 380538] := by rw [stM, tM_4_2]; decide +kernel
theorem tC_4_4 : stC 4 4 = [0, 0, 59049, 3818502, 39169170] := by rw [stC, tC_4_3]; decide +kernel
theorem tM_4_4 : stM 4 4 = [0, 0, 0, 19683, 0, 19683, 0, 1272834, 0, 19683, 0, 1272834, 0, 1272834, 0, 39169170] := by rw [stM, tM_4_3]; decide +kernel
theorem tC_4_5 : stC 4 5 = [0, 0, 531441, 94832694, 3391420266] := by rw [stC, tC_4_4]; decide +kernel
theorem tM_4_5 : stM 4 5 = [0, 0, 0, 177147, 0, 177147, 0, 31610898, 0, 177147, 0, 31610898, 0, 31610898, 0, 3391420266] := by rw [stM, tM_4_4]; decide +kernel
theorem tC_4_6 : stC 4 6 = [0, 0, 4782969, 2304682470, 280120071042] := by rw [stC, tC_4_5]; decide +kernel
theorem tM_4_6 : stM 4 6 = [0, 0, 0, 1594323, 0, 1594323, 0, 768227490, 0, 1594323, 0, 768227490, 0, 768227490, 0, 280120071042] := by rw [stM, tM_4_5]; decide +kernel
theorem tC_4_7 : stC 4 7 = [0, 0, 43046721, 55570659606, 22821178748634] := by rw [stC, tC_4_6]; decide +kernel
theorem tM_4_7 : stM 4 7 = [0, 0, 0, 14348907, 0, 14348907, 0, 18523553202, 0, 14348907, 0, 18523553202, 0, 18523553202, 0, 22821178748634] := by rw [stM, tM_4_6]; decide +kernel
theorem tC_4_8 : stC 4 8 = [0, 0, 387420489, 1336020353478, 1851683781077874] := by rw [stC, tC_4_7]; decide +kernel
theorem tM_4_8 : stM 4 8 = [0, 0, 0, 129140163, 0, 129140163, 0, 445340117826, 0, 129140163, 0, 445340117826, 0, 445340117826, 0, 1851683781077874] := by rw [stM, tM_4_7]; decide +kernel
theorem fin_w {n h k : Nat} (hn : 2 ≤ n) (hn4 : n ≤ 4) (hh1 : 1 ≤ h) (hh : h ≤ 8) (hk1 : 1 ≤ k) (hk : k ≤ n) : smM (stM n h) k 16 = (stC n h).getD k 0 := by
  rcases (show n = 2 ∨ n = 3 ∨ n = 4 by omega) with rfl | rfl | rfl
  · rcases (show h = 1 ∨ h = 2 ∨ h = 3 ∨ h = 4 ∨ h = 5 ∨ h = 6 ∨ h = 7 ∨ h = 8 by omega) with rfl | rfl | rfl | rfl | rfl | rfl | rfl | rfl
    · rw [tC_2_1, tM_2_1]; rcases (show k = 1 ∨ k = 2 by omega) with rfl | rfl <;> decide +kernel
    · rw [tC_2_2, tM_2_2]; rcases (show k = 1 ∨ k = 2 by omega) with rfl | rfl <;> decide +kernel
    · rw [tC_2_3, tM_2_3]; rcases (show k = 1 ∨ k = 2 by omega) with rfl | rfl <;> decide +kernel
    · rw [tC_2_4, tM_2_4]; rcases (show k = 1 ∨ k = 2 by omega) with rfl | rfl <;> decide +kernel
    · rw [tC_2_5, tM_2_5]; rcases (show k = 1 ∨ k = 2 by omega) with rfl | rfl <;> decide +kernel
    · rw [tC_2_6, tM_2_6]; rcases (show k = 1 ∨ k = 2 by omega) with rfl | rfl <;> decide +kernel
    · rw [tC_2_7, tM_2_7]; rcases (show k = 1 ∨ k = 2 by omega) with rfl | rfl <;> decide +kernel
    · rw [tC_2_8, tM_2_8]; rcases (show k = 1 ∨ k = 2 by omega) with rfl | rfl <;> decide +kernel
  · rcases (show h = 1 ∨ h = 2 ∨ h = 3 ∨ h = 4 ∨ h = 5 ∨ h = 6 ∨ h = 7 ∨ h = 8 by omega) with rfl | rfl | rfl | rfl | rfl | rfl | rfl | rfl
    · rw [tC_3_1, tM_3_1]; rcases (show k = 1 ∨ k = 2 ∨ k = 3 by omega) with rfl | rfl | rfl <;> decide +kernel
    · rw [tC_3_2, tM_3_2]; rcases (show k = 1 ∨ k = 2 ∨ k = 3 by omega) with rfl | rfl | rfl <;> decide +kernel
    · rw [tC_3_3, tM_3_3]; rcases (show k = 1 ∨ k = 2 ∨ k = 3 by omega) with rfl | rfl | rfl <;> decide +kernel
    · rw [tC_3_4, tM_3_4]; rcases (show k = 1 ∨ k = 2 ∨ k = 3 by omega) with rfl | rfl | rfl <;> decide +kernel
    · rw [tC_3_5, tM_3_5]; rcases (show k = 1 ∨ k = 2 ∨ k = 3 by omega) with rfl | rfl | rfl <;> decide +kernel
    · rw [tC_3_6, tM_3_6]; rcases (show k = 1 ∨ k = 2 ∨ k = 3 by omega) with rfl | rfl | rfl <;> decide +kernel
    · rw [tC_3_7, tM_3_7]; rcases (show k = 1 ∨ k = 2 ∨ k = 3 by omega) with rfl | rfl | rfl <;> decide +kernel
    · rw [tC_3_8, tM_3_8]; rcases (show k = 1 ∨ k = 2 ∨ k = 3 by omega) with rfl | rfl | rfl <;> decide +kernel
  · rcases (show h = 1 ∨ h = 2 ∨ h = 3 ∨ h = 4 ∨ h = 5 ∨ h = 6 ∨ h = 7 ∨ h = 8 by omega) with rfl | rfl | rfl | rfl | rfl | rfl | rfl | rfl
    · rw [tC_4_1, tM_4_1]; rcases (show k = 1 ∨ k = 2 ∨ k = 3 ∨ k = 4 by omega) with rfl | rfl | rfl | rfl <;> decide +kernel
    · rw [tC_4_2, tM_4_2]; rcases (show k = 1 ∨ k = 2 ∨ k = 3 ∨ k = 4 by omega) with rfl | rfl | rfl | rfl <;> decide +kernel
    · rw [tC_4_3, tM_4_3]; rcases (show k = 1 ∨ k = 2 ∨ k = 3 ∨ k = 4 by omega) with rfl | rfl | rfl | rfl <;> decide +kernel
    · rw [tC_4_4, tM_4_4]; rcases (show k = 1 ∨ k = 2 ∨ k = 3 ∨ k = 4 by omega) with rfl | rfl | rfl | rfl <;> decide +kernel
    · rw [tC_4_5, tM_4_5]; rcases (show k = 1 ∨ k = 2 ∨ k = 3 ∨ k = 4 by omega) with rfl | rfl | rfl | rfl <;> decide +kernel
    · rw [tC_4_6, tM_4_6]; rcases (show k = 1 ∨ k = 2 ∨ k = 3 ∨ k = 4 by omega) with rfl | rfl | rfl | rfl <;> decide +kernel
    · rw [tC_4_7, tM_4_7]; rcases (show k = 1 ∨ k = 2 ∨ k = 3 ∨ k = 4 by omega) with rfl | rfl | rfl | rfl <;> decide +kernel
    · rw [tC_4_8, tM_4_8]; rcases (show k = 1 ∨ k = 2 ∨ k = 3 ∨ k = 4 by omega) with rfl | rfl | rfl | rfl <;> decide +kernel
theorem rng {x : Int32} {a b : Nat} (hb : b < 2 ^ 30) (hab : a ≤ b) (h1 : ¬ x < nI a) (h2 : ¬ nI b < x) : ∃ n, a ≤ n ∧ n ≤ b ∧ x = nI n := by
  have k1 := fa_of_nlt h1
  have k2 := fa_of_nlt h2
  rw [fa_le, nI_toInt (by omega)] at k1 k2
  obtain ⟨j, hj, rfl⟩ := vp_in_of ((vp_in_iff (x := x) (n := b + 1)).mpr ⟨by omega, by omega⟩) (by omega)
  exact ⟨j, lt_f (i := j) (k := a) (by omega) (by omega) h1, by omega, rfl⟩
abbrev wOk (a b c : Int32) : Prop := ¬ a < 2 ∧ ¬ 4 < a ∧ ¬ b < 1 ∧ ¬ 8 < b ∧ ¬ c < 1 ∧ ¬ a < c
def wv (a b c : Int32) : Int64 := if wOk a b c then (stC a.toNatClampNeg b.toNatClampNeg).getD c.toNatClampNeg 0 else -1
theorem wv_no {a b c : Int32} (h : ¬ wOk a b c) : wv a b c = -1 := if_neg h
theorem wv_n {n h k : Nat} (hn : n ≤ 4) (hh : h ≤ 8) (hk : k ≤ n) (ok : wOk (nI n) (nI h) (nI k)) : wv (nI n) (nI h) (nI k) = (stC n h).getD k 0 := by
  rw [wv, if_pos ok, nI_clamp (by omega), nI_clamp (by omega), nI_clamp (by omega)]
theorem w_ok {a b c : Int32} (ok : wOk a b c) : ∃ n h k, 2 ≤ n ∧ n ≤ 4 ∧ 1 ≤ h ∧ h ≤ 8 ∧ 1 ≤ k ∧ k ≤ n ∧ a = nI n ∧ b = nI h ∧ c = nI k ∧ wv a b c = (stC n h).getD k 0 := by
  obtain ⟨h1, h2, h3, h4, h5, h6⟩ := id ok
  obtain ⟨n, n1, n2, rfl⟩ := rng (a := 2) (b := 4) (by decide) (by decide) h1 h2
  obtain ⟨h, q1, q2, rfl⟩ := rng (a := 1) (b := 8) (by decide) (by decide) h3 h4
  obtain ⟨k, k1, k2, rfl⟩ := rng (a := 1) (b := n) (by omega) (by omega) h5 h6
  exact ⟨n, h, k, n1, n2, q1, q2, k1, k2, rfl, rfl, rfl, wv_n n2 q2 k2 ok⟩
theorem m_1089 : (Cond.code yX2_power prog_4_method_4_code 5 (Option.some FieldType.long)) ∈ BW := bw (tb5 129 (by decide +kernel)) (by decide +kernel)
theorem dX2_power_0 : decode cX2_power 0 = .ok (.lconst 1, 1) := by decide +kernel
theorem dX2_power_1 : decode cX2_power 1 = .ok (.lstore_n 2, 1) := by decide +kernel
theorem dX2_power_2 : decode cX2_power 2 = .ok (.iconst 0, 1) := by decide +kernel
theorem dX2_power_3 : decode cX2_power 3 = .ok (.istore 4, 2) := by decide +kernel
theorem dX2_power_5 : decode cX2_power 5 = .ok (.iload 4, 2) := by decide +kernel
theorem dX2_power_7 : decode cX2_power 7 = .ok (.iload_n 1, 1) := by decide +kernel
theorem dX2_power_8 : decode cX2_power 8 = .ok (.if_icmp .ge 14, 3) := by decide +kernel
theorem dX2_power_22 : decode cX2_power 22 = .ok (.lload_n 2, 1) := by decide +kernel
theorem dX2_power_23 : decode cX2_power 23 = .ok (.lreturn, 1) := by decide +kernel
theorem dX2_power_11 : decode cX2_power 11 = .ok (.lload_n 2, 1) := by decide +kernel
theorem dX2_power_12 : decode cX2_power 12 = .ok (.iload_n 0, 1) := by decide +kernel
theorem dX2_power_13 : decode cX2_power 13 = .ok (.i2l, 1) := by decide +kernel
theorem dX2_power_14 : decode cX2_power 14 = .ok (.lmul, 1) := by decide +kernel
theorem dX2_power_15 : decode cX2_power 15 = .ok (.lstore_n 2, 1) := by decide +kernel
theorem dX2_power_16 : decode cX2_power 16 = .ok (.iinc 4 1, 3) := by decide +kernel
theorem dX2_power_19 : decode cX2_power 19 = .ok (.goto (-14), 3) := by decide +kernel
theorem m_811 : (Cond.code yJ6_bitCount_0f7a4 prog_17_method_49_code 1 (Option.some FieldType.int)) ∈ BW := bw (tb4 91 (by decide +kernel)) (by decide +kernel)
theorem dJ6_bitCount_0f7a4_0 : decode cJ6_bitCount_0f7a4 0 = .ok (.iload_n 0, 1) := by decide +kernel
theorem dJ6_bitCount_0f7a4_1 : decode cJ6_bitCount_0f7a4 1 = .ok (.iload_n 0, 1) := by decide +kernel
theorem dJ6_bitCount_0f7a4_2 : decode cJ6_bitCount_0f7a4 2 = .ok (.iconst 1, 1) := by decide +kernel
theorem dJ6_bitCount_0f7a4_3 : decode cJ6_bitCount_0f7a4 3 = .ok (.iushr, 1) := by decide +kernel
theorem m_812 : (Cond.constant "java/lang/Integer" 265 (1431655765 : Int32)) ∈ BW := bw (tb4 92 (by decide +kernel)) (by decide +kernel)
theorem dJ6_bitCount_0f7a4_4 : decode cJ6_bitCount_0f7a4 4 = .ok (.ldc_w 265, 3) := by decide +kernel
theorem dJ6_bitCount_0f7a4_7 : decode cJ6_bitCount_0f7a4 7 = .ok (.iand, 1) := by decide +kernel
theorem dJ6_bitCount_0f7a4_8 : decode cJ6_bitCount_0f7a4 8 = .ok (.isub, 1) := by decide +kernel
theorem dJ6_bitCount_0f7a4_9 : decode cJ6_bitCount_0f7a4 9 = .ok (.istore_n 0, 1) := by decide +kernel
theorem dJ6_bitCount_0f7a4_10 : decode cJ6_bitCount_0f7a4 10 = .ok (.iload_n 0, 1) := by decide +kernel
theorem m_813 : (Cond.constant "java/lang/Integer" 266 (858993459 : Int32)) ∈ BW := bw (tb4 93 (by decide +kernel)) (by decide +kernel)
theorem dJ6_bitCount_0f7a4_11 : decode cJ6_bitCount_0f7a4 11 = .ok (.ldc_w 266, 3) := by decide +kernel
theorem dJ6_bitCount_0f7a4_14 : decode cJ6_bitCount_0f7a4 14 = .ok (.iand, 1) := by decide +kernel
theorem dJ6_bitCount_0f7a4_15 : decode cJ6_bitCount_0f7a4 15 = .ok (.iload_n 0, 1) := by decide +kernel
theorem dJ6_bitCount_0f7a4_16 : decode cJ6_bitCount_0f7a4 16 = .ok (.iconst 2, 1) := by decide +kernel
theorem dJ6_bitCount_0f7a4_17 : decode cJ6_bitCount_0f7a4 17 = .ok (.iushr, 1) := by decide +kernel
theorem dJ6_bitCount_0f7a4_18 : decode cJ6_bitCount_0f7a4 18 = .ok (.ldc_w 266, 3) := by decide +kernel
theorem dJ6_bitCount_0f7a4_21 : decode cJ6_bitCount_0f7a4 21 = .ok (.iand, 1) := by decide +kernel
theorem dJ6_bitCount_0f7a4_22 : decode cJ6_bitCount_0f7a4 22 = .ok (.iadd, 1) := by decide +kernel
theorem dJ6_bitCount_0f7a4_23 : decode cJ6_bitCount_0f7a4 23 = .ok (.istore_n 0, 1) := by decide +kernel
theorem dJ6_bitCount_0f7a4_24 : decode cJ6_bitCount_0f7a4 24 = .ok (.iload_n 0, 1) := by decide +kernel
theorem dJ6_bitCount_0f7a4_25 : decode cJ6_bitCount_0f7a4 25 = .ok (.iload_n 0, 1) := by decide +kernel
theorem dJ6_bitCount_0f7a4_26 : decode cJ6_bitCount_0f7a4 26 = .ok (.iconst 4, 1) := by decide +kernel
theorem dJ6_bitCount_0f7a4_27 : decode cJ6_bitCount_0f7a4 27 = .ok (.iushr, 1) := by decide +kernel
theorem dJ6_bitCount_0f7a4_28 : decode cJ6_bitCount_0f7a4 28 = .ok (.iadd, 1) := by decide +kernel
theorem m_814 : (Cond.constant "java/lang/Integer" 267 (252645135 : Int32)) ∈ BW := bw (tb4 94 (by decide +kernel)) (by decide +kernel)
theorem dJ6_bitCount_0f7a4_29 : decode cJ6_bitCount_0f7a4 29 = .ok (.ldc_w 267, 3) := by decide +kernel
theorem dJ6_bitCount_0f7a4_32 : decode cJ6_bitCount_0f7a4 32 = .ok (.iand, 1) := by decide +kernel
theorem dJ6_bitCount_0f7a4_33 : decode cJ6_bitCount_0f7a4 33 = .ok (.istore_n 0, 1) := by decide +kernel
theorem dJ6_bitCount_0f7a4_34 : decode cJ6_bitCount_0f7a4 34 = .ok (.iload_n 0, 1) := by decide +kernel
theorem dJ6_bitCount_0f7a4_35 : decode cJ6_bitCount_0f7a4 35 = .ok (.iload_n 0, 1) := by decide +kernel
theorem dJ6_bitCount_0f7a4_36 : decode cJ6_bitCount_0f7a4 36 = .ok (.bipush 8, 2) := by decide +kernel
theorem dJ6_bitCount_0f7a4_38 : decode cJ6_bitCount_0f7a4 38 = .ok (.iushr, 1) := by decide +kernel
theorem dJ6_bitCount_0f7a4_39 : decode cJ6_bitCount_0f7a4 39 = .ok (.iadd, 1) := by decide +kernel
theorem dJ6_bitCount_0f7a4_40 : decode cJ6_bitCount_0f7a4 40 = .ok (.istore_n 0, 1) := by decide +kernel
theorem dJ6_bitCount_0f7a4_41 : decode cJ6_bitCount_0f7a4 41 = .ok (.iload_n 0, 1) := by decide +kernel
theorem dJ6_bitCount_0f7a4_42 : decode cJ6_bitCount_0f7a4 42 = .ok (.iload_n 0, 1) := by decide +kernel
theorem dJ6_bitCount_0f7a4_43 : decode cJ6_bitCount_0f7a4 43 = .ok (.bipush 16, 2) := by decide +kernel
theorem dJ6_bitCount_0f7a4_45 : decode cJ6_bitCount_0f7a4 45 = .ok (.iushr, 1) := by decide +kernel
theorem dJ6_bitCount_0f7a4_46 : decode cJ6_bitCount_0f7a4 46 = .ok (.iadd, 1) := by decide +kernel
theorem dJ6_bitCount_0f7a4_47 : decode cJ6_bitCount_0f7a4 47 = .ok (.istore_n 0, 1) := by decide +kernel
theorem dJ6_bitCount_0f7a4_48 : decode cJ6_bitCount_0f7a4 48 = .ok (.iload_n 0, 1) := by decide +kernel
theorem dJ6_bitCount_0f7a4_49 : decode cJ6_bitCount_0f7a4 49 = .ok (.bipush 63, 2) := by decide +kernel
theorem dJ6_bitCount_0f7a4_51 : decode cJ6_bitCount_0f7a4 51 = .ok (.iand, 1) := by decide +kernel
theorem dJ6_bitCount_0f7a4_52 : decode cJ6_bitCount_0f7a4 52 = .ok (.ireturn, 1) := by decide +kernel
theorem m_1082 : (Cond.code yJ7_fill_d0a16 prog_22_method_101_code 5 (Option.none : Option Jvm.ClassFile.FieldType)) ∈ BW := bw (tb5 122 (by decide +kernel)) (by decide +kernel)
theorem dJ7_fill_d0a16_0 : decode cJ7_fill_d0a16 0 = .ok (.iconst 0, 1) := by decide +kernel
theorem dJ7_fill_d0a16_1 : decode cJ7_fill_d0a16 1 = .ok (.istore_n 3, 1) := by decide +kernel
theorem dJ7_fill_d0a16_2 : decode cJ7_fill_d0a16 2 = .ok (.aload_n 0, 1) := by decide +kernel
theorem dJ7_fill_d0a16_3 : decode cJ7_fill_d0a16 3 = .ok (.arraylength, 1) := by decide +kernel
theorem dJ7_fill_d0a16_4 : decode cJ7_fill_d0a16 4 = .ok (.istore 4, 2) := by decide +kernel
theorem dJ7_fill_d0a16_6 : decode cJ7_fill_d0a16 6 = .ok (.iload_n 3, 1) := by decide +kernel
theorem dJ7_fill_d0a16_7 : decode cJ7_fill_d0a16 7 = .ok (.iload 4, 2) := by decide +kernel
theorem dJ7_fill_d0a16_9 : decode cJ7_fill_d0a16 9 = .ok (.if_icmp .ge 13, 3) := by decide +kernel
theorem dJ7_fill_d0a16_12 : decode cJ7_fill_d0a16 12 = .ok (.aload_n 0, 1) := by decide +kernel
theorem dJ7_fill_d0a16_13 : decode cJ7_fill_d0a16 13 = .ok (.iload_n 3, 1) := by decide +kernel
theorem dJ7_fill_d0a16_14 : decode cJ7_fill_d0a16 14 = .ok (.lload_n 1, 1) := by decide +kernel
theorem dJ7_fill_d0a16_15 : decode cJ7_fill_d0a16 15 = .ok (.lastore, 1) := by decide +kernel
theorem dJ7_fill_d0a16_16 : decode cJ7_fill_d0a16 16 = .ok (.iinc 3 1, 3) := by decide +kernel
theorem dJ7_fill_d0a16_19 : decode cJ7_fill_d0a16 19 = .ok (.goto (-13), 3) := by decide +kernel
theorem dJ7_fill_d0a16_22 : decode cJ7_fill_d0a16 22 = .ok (.return_, 1) := by decide +kernel
theorem m_1086 : (Cond.code yX2_goOn prog_4_method_3_code 13 (Option.none : Option Jvm.ClassFile.FieldType)) ∈ BW := bw (tb5 126 (by decide +kernel)) (by decide +kernel)
theorem dX2_goOn_0 : decode cX2_goOn 0 = .ok (.iload_n 1, 1) := by decide +kernel
theorem dX2_goOn_1 : decode cX2_goOn 1 = .ok (.iconst 1, 1) := by decide +kernel
theorem dX2_goOn_2 : decode cX2_goOn 2 = .ok (.isub, 1) := by decide +kernel
theorem dX2_goOn_3 : decode cX2_goOn 3 = .ok (.iload_n 1, 1) := by decide +kernel
theorem dX2_goOn_4 : decode cX2_goOn 4 = .ok (.iload_n 2, 1) := by decide +kernel
theorem dX2_goOn_5 : decode cX2_goOn 5 = .ok (.isub, 1) := by decide +kernel
theorem m_1087 : (Cond.methodLink "NoonValley$Chance" 28 yX2_power) ∈ BW := bw (tb5 127 (by decide +kernel)) (by decide +kernel)
theorem m_1088 : (Cond.static yX2_power) ∈ BW := bw (tb5 128 (by decide +kernel)) (by decide +kernel)
theorem vX2_28 : LST RX2 28 yX2_power cX2_power 5 (some .long) 2 := ⟨m_1087, m_1088, m_10, m_1089, by decide, by decide, by decide +kernel⟩
theorem dX2_goOn_6 : decode cX2_goOn 6 = .ok (.invokestatic 28, 3) := by decide +kernel
theorem dX2_goOn_9 : decode cX2_goOn 9 = .ok (.lstore_n 3, 1) := by decide +kernel
theorem dX2_goOn_10 : decode cX2_goOn 10 = .ok (.iload_n 1, 1) := by decide +kernel
theorem dX2_goOn_11 : decode cX2_goOn 11 = .ok (.iconst 1, 1) := by decide +kernel
theorem dX2_goOn_12 : decode cX2_goOn 12 = .ok (.isub, 1) := by decide +kernel
theorem dX2_goOn_13 : decode cX2_goOn 13 = .ok (.iload_n 2, 1) := by decide +kernel
theorem dX2_goOn_14 : decode cX2_goOn 14 = .ok (.invokestatic 28, 3) := by decide +kernel
theorem dX2_goOn_17 : decode cX2_goOn 17 = .ok (.lstore 5, 2) := by decide +kernel
theorem dX2_goOn_19 : decode cX2_goOn 19 = .ok (.lconst 0, 1) := by decide +kernel
theorem dX2_goOn_20 : decode cX2_goOn 20 = .ok (.lstore 7, 2) := by decide +kernel
theorem dX2_goOn_22 : decode cX2_goOn 22 = .ok (.lload 7, 2) := by decide +kernel
theorem dX2_goOn_24 : decode cX2_goOn 24 = .ok (.lload 5, 2) := by decide +kernel
theorem dX2_goOn_26 : decode cX2_goOn 26 = .ok (.lcmp, 1) := by decide +kernel
theorem dX2_goOn_27 : decode cX2_goOn 27 = .ok (.ifCond .ge 106, 3) := by decide +kernel
theorem dX2_goOn_133 : decode cX2_goOn 133 = .ok (.return_, 1) := by decide +kernel
theorem dX2_goOn_30 : decode cX2_goOn 30 = .ok (.iconst 1, 1) := by decide +kernel
theorem dX2_goOn_31 : decode cX2_goOn 31 = .ok (.iload_n 2, 1) := by decide +kernel
theorem dX2_goOn_32 : decode cX2_goOn 32 = .ok (.ishl, 1) := by decide +kernel
theorem dX2_goOn_33 : decode cX2_goOn 33 = .ok (.iconst 1, 1) := by decide +kernel
theorem dX2_goOn_34 : decode cX2_goOn 34 = .ok (.isub, 1) := by decide +kernel
theorem dX2_goOn_35 : decode cX2_goOn 35 = .ok (.istore 9, 2) := by decide +kernel
theorem dX2_goOn_37 : decode cX2_goOn 37 = .ok (.lload 7, 2) := by decide +kernel
theorem dX2_goOn_39 : decode cX2_goOn 39 = .ok (.lstore 10, 2) := by decide +kernel
theorem dX2_goOn_41 : decode cX2_goOn 41 = .ok (.iconst 0, 1) := by decide +kernel
theorem dX2_goOn_42 : decode cX2_goOn 42 = .ok (.istore 12, 2) := by decide +kernel
theorem dX2_goOn_44 : decode cX2_goOn 44 = .ok (.iload 12, 2) := by decide +kernel
theorem dX2_goOn_46 : decode cX2_goOn 46 = .ok (.iload_n 2, 1) := by decide +kernel
theorem dX2_goOn_47 : decode cX2_goOn 47 = .ok (.if_icmp .ge 46, 3) := by decide +kernel
theorem dX2_goOn_93 : decode cX2_goOn 93 = .ok (.iload 9, 2) := by decide +kernel
theorem m_1094 : (Cond.methodLink "NoonValley$Chance" 41 yJ6_bitCount_0f7a4) ∈ BW := bw (tb5 134 (by decide +kernel)) (by decide +kernel)
theorem m_20 : (Cond.initialized "java/lang/Integer") ∈ BW := bw (tb1 20 (by decide +kernel)) (by decide +kernel)
theorem m_810 : (Cond.static yJ6_bitCount_0f7a4) ∈ BW := bw (tb4 90 (by decide +kernel)) (by decide +kernel)
theorem vX2_41 : LST RX2 41 yJ6_bitCount_0f7a4 cJ6_bitCount_0f7a4 1 (some .int) 1 := ⟨m_1094, m_810, m_20, m_811, by decide, by decide, by decide +kernel⟩
theorem dX2_goOn_95 : decode cX2_goOn 95 = .ok (.invokestatic 41, 3) := by decide +kernel
theorem dX2_goOn_98 : decode cX2_goOn 98 = .ok (.istore 12, 2) := by decide +kernel
theorem dX2_goOn_100 : decode cX2_goOn 100 = .ok (.iload 12, 2) := by decide +kernel
theorem dX2_goOn_102 : decode cX2_goOn 102 = .ok (.iconst 4, 1) := by decide +kernel
theorem dX2_goOn_103 : decode cX2_goOn 103 = .ok (.if_icmp .gt 21, 3) := by decide +kernel
theorem dX2_goOn_106 : decode cX2_goOn 106 = .ok (.aload_n 0, 1) := by decide +kernel
theorem dX2_goOn_107 : decode cX2_goOn 107 = .ok (.getfield 15, 3) := by decide +kernel
theorem dX2_goOn_110 : decode cX2_goOn 110 = .ok (.iload 12, 2) := by decide +kernel
theorem dX2_goOn_112 : decode cX2_goOn 112 = .ok (.dup2, 1) := by decide +kernel
theorem dX2_goOn_113 : decode cX2_goOn 113 = .ok (.laload, 1) := by decide +kernel
theorem dX2_goOn_114 : decode cX2_goOn 114 = .ok (.aload_n 0, 1) := by decide +kernel
theorem dX2_goOn_115 : decode cX2_goOn 115 = .ok (.getfield 11, 3) := by decide +kernel
theorem dX2_goOn_118 : decode cX2_goOn 118 = .ok (.iload_n 2, 1) := by decide +kernel
theorem dX2_goOn_119 : decode cX2_goOn 119 = .ok (.laload, 1) := by decide +kernel
theorem dX2_goOn_120 : decode cX2_goOn 120 = .ok (.lload_n 3, 1) := by decide +kernel
theorem dX2_goOn_121 : decode cX2_goOn 121 = .ok (.lmul, 1) := by decide +kernel
theorem dX2_goOn_122 : decode cX2_goOn 122 = .ok (.ladd, 1) := by decide +kernel
theorem dX2_goOn_123 : decode cX2_goOn 123 = .ok (.lastore, 1) := by decide +kernel
theorem dX2_goOn_124 : decode cX2_goOn 124 = .ok (.lload 7, 2) := by decide +kernel
theorem dX2_goOn_126 : decode cX2_goOn 126 = .ok (.lconst 1, 1) := by decide +kernel
theorem dX2_goOn_127 : decode cX2_goOn 127 = .ok (.ladd, 1) := by decide +kernel
theorem dX2_goOn_128 : decode cX2_goOn 128 = .ok (.lstore 7, 2) := by decide +kernel
theorem dX2_goOn_130 : decode cX2_goOn 130 = .ok (.goto (-108), 3) := by decide +kernel
theorem dX2_goOn_50 : decode cX2_goOn 50 = .ok (.iload 9, 2) := by decide +kernel
theorem dX2_goOn_52 : decode cX2_goOn 52 = .ok (.iconst 1, 1) := by decide +kernel
theorem dX2_goOn_53 : decode cX2_goOn 53 = .ok (.iload 12, 2) := by decide +kernel
theorem dX2_goOn_55 : decode cX2_goOn 55 = .ok (.lload 10, 2) := by decide +kernel
theorem dX2_goOn_57 : decode cX2_goOn 57 = .ok (.iconst 1, 1) := by decide +kernel
theorem dX2_goOn_58 : decode cX2_goOn 58 = .ok (.iload_n 1, 1) := by decide +kernel
theorem dX2_goOn_59 : decode cX2_goOn 59 = .ok (.iconst 1, 1) := by decide +kernel
theorem dX2_goOn_60 : decode cX2_goOn 60 = .ok (.isub, 1) := by decide +kernel
theorem mm_X2_61 : (Cond.methodLink "NoonValley$Chance" 32 Lib.Math.max.name) ∈ BW := bw (tb5 130 (by decide +kernel)) (by decide +kernel)
theorem dX2_goOn_61 : decode cX2_goOn 61 = .ok (.invokestatic 32, 3) := by decide +kernel
theorem dX2_goOn_64 : decode cX2_goOn 64 = .ok (.i2l, 1) := by decide +kernel
theorem dX2_goOn_65 : decode cX2_goOn 65 = .ok (.lrem, 1) := by decide +kernel
theorem dX2_goOn_66 : decode cX2_goOn 66 = .ok (.l2i, 1) := by decide +kernel
theorem dX2_goOn_67 : decode cX2_goOn 67 = .ok (.invokestatic 38, 3) := by decide +kernel
theorem dX2_goOn_70 : decode cX2_goOn 70 = .ok (.ishl, 1) := by decide +kernel
theorem dX2_goOn_71 : decode cX2_goOn 71 = .ok (.ior, 1) := by decide +kernel
theorem dX2_goOn_72 : decode cX2_goOn 72 = .ok (.istore 9, 2) := by decide +kernel
theorem dX2_goOn_74 : decode cX2_goOn 74 = .ok (.lload 10, 2) := by decide +kernel
theorem dX2_goOn_76 : decode cX2_goOn 76 = .ok (.iconst 1, 1) := by decide +kernel
theorem dX2_goOn_77 : decode cX2_goOn 77 = .ok (.iload_n 1, 1) := by decide +kernel
theorem dX2_goOn_78 : decode cX2_goOn 78 = .ok (.iconst 1, 1) := by decide +kernel
theorem dX2_goOn_79 : decode cX2_goOn 79 = .ok (.isub, 1) := by decide +kernel
theorem mm_X2_80 : (Cond.methodLink "NoonValley$Chance" 32 Lib.Math.max.name) ∈ BW := bw (tb5 130 (by decide +kernel)) (by decide +kernel)
theorem dX2_goOn_80 : decode cX2_goOn 80 = .ok (.invokestatic 32, 3) := by decide +kernel
theorem dX2_goOn_83 : decode cX2_goOn 83 = .ok (.i2l, 1) := by decide +kernel
theorem dX2_goOn_84 : decode cX2_goOn 84 = .ok (.ldiv, 1) := by decide +kernel
theorem dX2_goOn_85 : decode cX2_goOn 85 = .ok (.lstore 10, 2) := by decide +kernel
theorem dX2_goOn_87 : decode cX2_goOn 87 = .ok (.iinc 12 1, 3) := by decide +kernel
theorem dX2_goOn_90 : decode cX2_goOn 90 = .ok (.goto (-46), 3) := by decide +kernel
theorem m_1079 : (Cond.code yX2_countWays prog_4_method_2_code 6 (Option.some FieldType.long)) ∈ BW := bw (tb5 119 (by decide +kernel)) (by decide +kernel)
theorem dX2_countWays_0 : decode cX2_countWays 0 = .ok (.aload_n 0, 1) := by decide +kernel
theorem dX2_countWays_1 : decode cX2_countWays 1 = .ok (.getfield 11, 3) := by decide +kernel
theorem dX2_countWays_4 : decode cX2_countWays 4 = .ok (.lconst 0, 1) := by decide +kernel
theorem m_1080 : (Cond.methodLink "NoonValley$Chance" 18 yJ7_fill_d0a16) ∈ BW := bw (tb5 120 (by decide +kernel)) (by decide +kernel)
theorem m_1081 : (Cond.static yJ7_fill_d0a16) ∈ BW := bw (tb5 121 (by decide +kernel)) (by decide +kernel)
theorem vX2_18 : LST RX2 18 yJ7_fill_d0a16 cJ7_fill_d0a16 5 none 2 := ⟨m_1080, m_1081, m_13, m_1082, by decide, by decide, by decide +kernel⟩
theorem dX2_countWays_5 : decode cX2_countWays 5 = .ok (.invokestatic 18, 3) := by decide +kernel
theorem dX2_countWays_8 : decode cX2_countWays 8 = .ok (.aload_n 0, 1) := by decide +kernel
theorem dX2_countWays_9 : decode cX2_countWays 9 = .ok (.getfield 11, 3) := by decide +kernel
theorem dX2_countWays_12 : decode cX2_countWays 12 = .ok (.iconst 1, 1) := by decide +kernel
theorem dX2_countWays_13 : decode cX2_countWays 13 = .ok (.lconst 1, 1) := by decide +kernel
theorem dX2_countWays_14 : decode cX2_countWays 14 = .ok (.lastore, 1) := by decide +kernel
theorem dX2_countWays_15 : decode cX2_countWays 15 = .ok (.iconst 1, 1) := by decide +kernel
theorem dX2_countWays_16 : decode cX2_countWays 16 = .ok (.istore 4, 2) := by decide +kernel
theorem dX2_countWays_18 : decode cX2_countWays 18 = .ok (.iload 4, 2) := by decide +kernel
theorem dX2_countWays_20 : decode cX2_countWays 20 = .ok (.iload_n 2, 1) := by decide +kernel
theorem dX2_countWays_21 : decode cX2_countWays 21 = .ok (.if_icmp .gt 71, 3) := by decide +kernel
theorem dX2_countWays_92 : decode cX2_countWays 92 = .ok (.aload_n 0, 1) := by decide +kernel
theorem dX2_countWays_93 : decode cX2_countWays 93 = .ok (.getfield 11, 3) := by decide +kernel
theorem dX2_countWays_96 : decode cX2_countWays 96 = .ok (.iload_n 3, 1) := by decide +kernel
theorem dX2_countWays_97 : decode cX2_countWays 97 = .ok (.laload, 1) := by decide +kernel
theorem dX2_countWays_98 : decode cX2_countWays 98 = .ok (.lreturn, 1) := by decide +kernel
theorem dX2_countWays_24 : decode cX2_countWays 24 = .ok (.aload_n 0, 1) := by decide +kernel
theorem dX2_countWays_25 : decode cX2_countWays 25 = .ok (.getfield 15, 3) := by decide +kernel
theorem dX2_countWays_28 : decode cX2_countWays 28 = .ok (.lconst 0, 1) := by decide +kernel
theorem dX2_countWays_29 : decode cX2_countWays 29 = .ok (.invokestatic 18, 3) := by decide +kernel
theorem dX2_countWays_32 : decode cX2_countWays 32 = .ok (.iconst 1, 1) := by decide +kernel
theorem dX2_countWays_33 : decode cX2_countWays 33 = .ok (.istore 5, 2) := by decide +kernel
theorem dX2_countWays_35 : decode cX2_countWays 35 = .ok (.iload 5, 2) := by decide +kernel
theorem dX2_countWays_37 : decode cX2_countWays 37 = .ok (.iload_n 1, 1) := by decide +kernel
theorem dX2_countWays_38 : decode cX2_countWays 38 = .ok (.if_icmp .gt 28, 3) := by decide +kernel
theorem dX2_countWays_66 : decode cX2_countWays 66 = .ok (.aload_n 0, 1) := by decide +kernel
theorem dX2_countWays_67 : decode cX2_countWays 67 = .ok (.getfield 11, 3) := by decide +kernel
theorem dX2_countWays_70 : decode cX2_countWays 70 = .ok (.astore 5, 2) := by decide +kernel
theorem dX2_countWays_72 : decode cX2_countWays 72 = .ok (.aload_n 0, 1) := by decide +kernel
theorem dX2_countWays_73 : decode cX2_countWays 73 = .ok (.aload_n 0, 1) := by decide +kernel
theorem dX2_countWays_74 : decode cX2_countWays 74 = .ok (.getfield 15, 3) := by decide +kernel
theorem dX2_countWays_77 : decode cX2_countWays 77 = .ok (.putfield 11, 3) := by decide +kernel
theorem dX2_countWays_80 : decode cX2_countWays 80 = .ok (.aload_n 0, 1) := by decide +kernel
theorem dX2_countWays_81 : decode cX2_countWays 81 = .ok (.aload 5, 2) := by decide +kernel
theorem dX2_countWays_83 : decode cX2_countWays 83 = .ok (.putfield 15, 3) := by decide +kernel
theorem dX2_countWays_86 : decode cX2_countWays 86 = .ok (.iinc 4 1, 3) := by decide +kernel
theorem dX2_countWays_89 : decode cX2_countWays 89 = .ok (.goto (-71), 3) := by decide +kernel
theorem dX2_countWays_41 : decode cX2_countWays 41 = .ok (.aload_n 0, 1) := by decide +kernel
theorem dX2_countWays_42 : decode cX2_countWays 42 = .ok (.getfield 11, 3) := by decide +kernel
theorem dX2_countWays_45 : decode cX2_countWays 45 = .ok (.iload 5, 2) := by decide +kernel
theorem dX2_countWays_47 : decode cX2_countWays 47 = .ok (.laload, 1) := by decide +kernel
theorem dX2_countWays_48 : decode cX2_countWays 48 = .ok (.lconst 0, 1) := by decide +kernel
theorem dX2_countWays_49 : decode cX2_countWays 49 = .ok (.lcmp, 1) := by decide +kernel
theorem dX2_countWays_50 : decode cX2_countWays 50 = .ok (.ifCond .eq 10, 3) := by decide +kernel
theorem dX2_countWays_60 : decode cX2_countWays 60 = .ok (.iinc 5 1, 3) := by decide +kernel
theorem dX2_countWays_63 : decode cX2_countWays 63 = .ok (.goto (-28), 3) := by decide +kernel
theorem dX2_countWays_53 : decode cX2_countWays 53 = .ok (.aload_n 0, 1) := by decide +kernel
theorem dX2_countWays_54 : decode cX2_countWays 54 = .ok (.iload_n 1, 1) := by decide +kernel
theorem dX2_countWays_55 : decode cX2_countWays 55 = .ok (.iload 5, 2) := by decide +kernel
theorem m_1083 : (Cond.methodLink "NoonValley$Chance" 24 yX2_goOn) ∈ BW := bw (tb5 123 (by decide +kernel)) (by decide +kernel)
theorem m_1085 : (Cond.instanceMethod yX2_goOn) ∈ BW := bw (tb5 125 (by decide +kernel)) (by decide +kernel)
theorem s_4_0 : (Cond.selects RX2 yX2_goOn yX2_goOn) ∈ BW := bw (sl4 (y := yX2_goOn) (n := 2) 0 (by decide +kernel)) (by decide +kernel)
theorem vX2_24 : LV RX2 24 RX2 yX2_goOn cX2_goOn 13 none 2 := ⟨m_1083, m_1085, s_4_0, m_10, m_1086, rfl, by decide, by decide, by decide +kernel⟩
theorem dX2_countWays_57 : decode cX2_countWays 57 = .ok (.invokevirtual 24, 3) := by decide +kernel
theorem m_1074 : (Cond.code yX11_ways prog_1_method_33_code 4 (Option.some FieldType.long)) ∈ BW := bw (tb5 114 (by decide +kernel)) (by decide +kernel)
theorem dX11_ways_0 : decode cX11_ways 0 = .ok (.iload_n 1, 1) := by decide +kernel
theorem dX11_ways_1 : decode cX11_ways 1 = .ok (.iconst 2, 1) := by decide +kernel
theorem dX11_ways_2 : decode cX11_ways 2 = .ok (.if_icmp .lt 29, 3) := by decide +kernel
theorem m_1075 : (Cond.constantLong "NoonValley" 298 (-1 : Int64)) ∈ BW := bw (tb5 115 (by decide +kernel)) (by decide +kernel)
theorem dX11_ways_31 : decode cX11_ways 31 = .ok (.ldc2_w 298, 3) := by decide +kernel
theorem dX11_ways_34 : decode cX11_ways 34 = .ok (.lreturn, 1) := by decide +kernel
theorem dX11_ways_5 : decode cX11_ways 5 = .ok (.iload_n 1, 1) := by decide +kernel
theorem dX11_ways_6 : decode cX11_ways 6 = .ok (.iconst 4, 1) := by decide +kernel
theorem dX11_ways_7 : decode cX11_ways 7 = .ok (.if_icmp .gt 24, 3) := by decide +kernel
theorem dX11_ways_10 : decode cX11_ways 10 = .ok (.iload_n 2, 1) := by decide +kernel
theorem dX11_ways_11 : decode cX11_ways 11 = .ok (.iconst 1, 1) := by decide +kernel
theorem dX11_ways_12 : decode cX11_ways 12 = .ok (.if_icmp .lt 19, 3) := by decide +kernel
theorem dX11_ways_15 : decode cX11_ways 15 = .ok (.iload_n 2, 1) := by decide +kernel
theorem dX11_ways_16 : decode cX11_ways 16 = .ok (.bipush 8, 2) := by decide +kernel
theorem dX11_ways_18 : decode cX11_ways 18 = .ok (.if_icmp .gt 13, 3) := by decide +kernel
theorem dX11_ways_21 : decode cX11_ways 21 = .ok (.iload_n 3, 1) := by decide +kernel
theorem dX11_ways_22 : decode cX11_ways 22 = .ok (.iconst 1, 1) := by decide +kernel
theorem dX11_ways_23 : decode cX11_ways 23 = .ok (.if_icmp .lt 8, 3) := by decide +kernel
theorem dX11_ways_26 : decode cX11_ways 26 = .ok (.iload_n 3, 1) := by decide +kernel
theorem dX11_ways_27 : decode cX11_ways 27 = .ok (.iload_n 1, 1) := by decide +kernel
theorem dX11_ways_28 : decode cX11_ways 28 = .ok (.if_icmp .le 7, 3) := by decide +kernel
theorem dX11_ways_35 : decode cX11_ways 35 = .ok (.aload_n 0, 1) := by decide +kernel
theorem dX11_ways_36 : decode cX11_ways 36 = .ok (.getfield 73, 3) := by decide +kernel
theorem dX11_ways_39 : decode cX11_ways 39 = .ok (.iload_n 1, 1) := by decide +kernel
theorem dX11_ways_40 : decode cX11_ways 40 = .ok (.iload_n 2, 1) := by decide +kernel
theorem dX11_ways_41 : decode cX11_ways 41 = .ok (.iload_n 3, 1) := by decide +kernel
theorem m_1076 : (Cond.methodLink "NoonValley" 300 yX2_countWays) ∈ BW := bw (tb5 116 (by decide +kernel)) (by decide +kernel)
theorem m_1077 : (Cond.instanceMethod yX2_countWays) ∈ BW := bw (tb5 117 (by decide +kernel)) (by decide +kernel)
theorem m_1078 : (Cond.selects "NoonValley$Chance" yX2_countWays yX2_countWays) ∈ BW := bw (tb5 118 (by decide +kernel)) (by decide +kernel)
theorem vX11_300 : LV RX11 300 RX2 yX2_countWays cX2_countWays 6 (some .long) 3 := ⟨m_1076, m_1077, m_1078, m_10, m_1079, rfl, by decide, by decide, by decide +kernel⟩
theorem dX11_ways_42 : decode cX11_ways 42 = .ok (.invokevirtual 300, 3) := by decide +kernel
theorem dX11_ways_45 : decode cX11_ways 45 = .ok (.lreturn, 1) := by decide +kernel
theorem m_1763 : (Cond.code yX12_choose prog_14_method_87_code 8 (Option.none : Option Jvm.ClassFile.FieldType)) ∈ BW := bw (tb8 83 (by decide +kernel)) (by decide +kernel)
theorem dX12_choose_0 : decode cX12_choose 0 = .ok (.iload_n 3, 1) := by decide +kernel
theorem dX12_choose_1 : decode cX12_choose 1 = .ok (.iload_n 1, 1) := by decide +kernel
theorem dX12_choose_2 : decode cX12_choose 2 = .ok (.if_icmp .ne 18, 3) := by decide +kernel
theorem dX12_choose_5 : decode cX12_choose 5 = .ok (.aload_n 0, 1) := by decide +kernel
theorem dX12_choose_6 : decode cX12_choose 6 = .ok (.getfield 148, 3) := by decide +kernel
theorem dX12_choose_9 : decode cX12_choose 9 = .ok (.iload_n 2, 1) := by decide +kernel
theorem dX12_choose_10 : decode cX12_choose 10 = .ok (.iload 4, 2) := by decide +kernel
theorem dX12_choose_12 : decode cX12_choose 12 = .ok (.ior, 1) := by decide +kernel
theorem dX12_choose_13 : decode cX12_choose 13 = .ok (.dup2, 1) := by decide +kernel
theorem dX12_choose_14 : decode cX12_choose 14 = .ok (.laload, 1) := by decide +kernel
theorem dX12_choose_15 : decode cX12_choose 15 = .ok (.lload 5, 2) := by decide +kernel
theorem dX12_choose_17 : decode cX12_choose 17 = .ok (.ladd, 1) := by decide +kernel
theorem dX12_choose_18 : decode cX12_choose 18 = .ok (.lastore, 1) := by decide +kernel
theorem dX12_choose_19 : decode cX12_choose 19 = .ok (.return_, 1) := by decide +kernel
theorem dX12_choose_20 : decode cX12_choose 20 = .ok (.iconst 0, 1) := by decide +kernel
theorem dX12_choose_21 : decode cX12_choose 21 = .ok (.istore 7, 2) := by decide +kernel
theorem dX12_choose_23 : decode cX12_choose 23 = .ok (.iload 7, 2) := by decide +kernel
theorem dX12_choose_25 : decode cX12_choose 25 = .ok (.iload_n 1, 1) := by decide +kernel
theorem dX12_choose_26 : decode cX12_choose 26 = .ok (.if_icmp .ge 47, 3) := by decide +kernel
theorem dX12_choose_73 : decode cX12_choose 73 = .ok (.return_, 1) := by decide +kernel
theorem dX12_choose_29 : decode cX12_choose 29 = .ok (.iload 7, 2) := by decide +kernel
theorem dX12_choose_31 : decode cX12_choose 31 = .ok (.iload_n 3, 1) := by decide +kernel
theorem dX12_choose_32 : decode cX12_choose 32 = .ok (.if_icmp .eq 35, 3) := by decide +kernel
theorem dX12_choose_67 : decode cX12_choose 67 = .ok (.iinc 7 1, 3) := by decide +kernel
theorem dX12_choose_70 : decode cX12_choose 70 = .ok (.goto (-47), 3) := by decide +kernel
theorem dX12_choose_35 : decode cX12_choose 35 = .ok (.aload_n 0, 1) := by decide +kernel
theorem dX12_choose_36 : decode cX12_choose 36 = .ok (.iload_n 1, 1) := by decide +kernel
theorem dX12_choose_37 : decode cX12_choose 37 = .ok (.iload_n 2, 1) := by decide +kernel
theorem dX12_choose_38 : decode cX12_choose 38 = .ok (.iload_n 3, 1) := by decide +kernel
theorem dX12_choose_39 : decode cX12_choose 39 = .ok (.iconst 1, 1) := by decide +kernel
theorem dX12_choose_40 : decode cX12_choose 40 = .ok (.iadd, 1) := by decide +kernel
theorem dX12_choose_41 : decode cX12_choose 41 = .ok (.iload_n 2, 1) := by decide +kernel
theorem dX12_choose_42 : decode cX12_choose 42 = .ok (.iload_n 3, 1) := by decide +kernel
theorem dX12_choose_43 : decode cX12_choose 43 = .ok (.ishr, 1) := by decide +kernel
theorem dX12_choose_44 : decode cX12_choose 44 = .ok (.iconst 1, 1) := by decide +kernel
theorem dX12_choose_45 : decode cX12_choose 45 = .ok (.iand, 1) := by decide +kernel
theorem dX12_choose_46 : decode cX12_choose 46 = .ok (.iconst 1, 1) := by decide +kernel
theorem dX12_choose_47 : decode cX12_choose 47 = .ok (.if_icmp .ne 13, 3) := by decide +kernel
theorem dX12_choose_60 : decode cX12_choose 60 = .ok (.iload 4, 2) := by decide +kernel
theorem dX12_choose_62 : decode cX12_choose 62 = .ok (.lload 5, 2) := by decide +kernel
theorem m_1760 : (Cond.methodLink "NoonValleyModel" 388 yX12_choose) ∈ BW := bw (tb8 80 (by decide +kernel)) (by decide +kernel)
theorem m_1762 : (Cond.instanceMethod yX12_choose) ∈ BW := bw (tb8 82 (by decide +kernel)) (by decide +kernel)
theorem s_7_3 : (Cond.selects RX12 yX12_choose yX12_choose) ∈ BW := bw (sl7 (y := yX12_choose) (n := 64) 3 (by decide +kernel)) (by decide +kernel)
theorem vX12_388 : LV RX12 388 RX12 yX12_choose cX12_choose 8 none 5 := ⟨m_1760, m_1762, s_7_3, m_12, m_1763, rfl, by decide, by decide, by decide +kernel⟩
theorem dX12_choose_64 : decode cX12_choose 64 = .ok (.invokevirtual 388, 3) := by decide +kernel
theorem dX12_choose_50 : decode cX12_choose 50 = .ok (.iload 4, 2) := by decide +kernel
theorem dX12_choose_52 : decode cX12_choose 52 = .ok (.iconst 1, 1) := by decide +kernel
theorem dX12_choose_53 : decode cX12_choose 53 = .ok (.iload 7, 2) := by decide +kernel
theorem dX12_choose_55 : decode cX12_choose 55 = .ok (.ishl, 1) := by decide +kernel
theorem dX12_choose_56 : decode cX12_choose 56 = .ok (.ior, 1) := by decide +kernel
theorem dX12_choose_57 : decode cX12_choose 57 = .ok (.goto 5, 3) := by decide +kernel
theorem m_1758 : (Cond.code yX12_ways prog_14_method_88_code 7 (Option.some FieldType.long)) ∈ BW := bw (tb8 78 (by decide +kernel)) (by decide +kernel)
theorem dX12_ways_0 : decode cX12_ways 0 = .ok (.aload_n 0, 1) := by decide +kernel
theorem dX12_ways_1 : decode cX12_ways 1 = .ok (.iconst 0, 1) := by decide +kernel
theorem dX12_ways_2 : decode cX12_ways 2 = .ok (.putfield 160, 3) := by decide +kernel
theorem dX12_ways_5 : decode cX12_ways 5 = .ok (.iload_n 1, 1) := by decide +kernel
theorem dX12_ways_6 : decode cX12_ways 6 = .ok (.iconst 2, 1) := by decide +kernel
theorem dX12_ways_7 : decode cX12_ways 7 = .ok (.iconst 4, 1) := by decide +kernel
theorem dX12_ways_8 : decode cX12_ways 8 = .ok (.invokestatic 198, 3) := by decide +kernel
theorem dX12_ways_11 : decode cX12_ways 11 = .ok (.ifCond .eq 22, 3) := by decide +kernel
theorem m_1759 : (Cond.constantLong "NoonValleyModel" 392 (-1 : Int64)) ∈ BW := bw (tb8 79 (by decide +kernel)) (by decide +kernel)
theorem dX12_ways_33 : decode cX12_ways 33 = .ok (.ldc2_w 392, 3) := by decide +kernel
theorem dX12_ways_36 : decode cX12_ways 36 = .ok (.lreturn, 1) := by decide +kernel
theorem dX12_ways_14 : decode cX12_ways 14 = .ok (.iload_n 2, 1) := by decide +kernel
theorem dX12_ways_15 : decode cX12_ways 15 = .ok (.iconst 1, 1) := by decide +kernel
theorem dX12_ways_16 : decode cX12_ways 16 = .ok (.bipush 8, 2) := by decide +kernel
theorem dX12_ways_18 : decode cX12_ways 18 = .ok (.invokestatic 198, 3) := by decide +kernel
theorem dX12_ways_21 : decode cX12_ways 21 = .ok (.ifCond .eq 12, 3) := by decide +kernel
theorem dX12_ways_24 : decode cX12_ways 24 = .ok (.iload_n 3, 1) := by decide +kernel
theorem dX12_ways_25 : decode cX12_ways 25 = .ok (.iconst 1, 1) := by decide +kernel
theorem dX12_ways_26 : decode cX12_ways 26 = .ok (.iload_n 1, 1) := by decide +kernel
theorem dX12_ways_27 : decode cX12_ways 27 = .ok (.invokestatic 198, 3) := by decide +kernel
theorem dX12_ways_30 : decode cX12_ways 30 = .ok (.ifCond .ne 7, 3) := by decide +kernel
theorem dX12_ways_37 : decode cX12_ways 37 = .ok (.iconst 0, 1) := by decide +kernel
theorem dX12_ways_38 : decode cX12_ways 38 = .ok (.istore 4, 2) := by decide +kernel
theorem dX12_ways_40 : decode cX12_ways 40 = .ok (.iload 4, 2) := by decide +kernel
theorem dX12_ways_42 : decode cX12_ways 42 = .ok (.bipush 16, 2) := by decide +kernel
theorem dX12_ways_44 : decode cX12_ways 44 = .ok (.if_icmp .ge 27, 3) := by decide +kernel
theorem dX12_ways_71 : decode cX12_ways 71 = .ok (.iconst 0, 1) := by decide +kernel
theorem dX12_ways_72 : decode cX12_ways 72 = .ok (.istore 4, 2) := by decide +kernel
theorem dX12_ways_74 : decode cX12_ways 74 = .ok (.iload 4, 2) := by decide +kernel
theorem dX12_ways_76 : decode cX12_ways 76 = .ok (.iload_n 2, 1) := by decide +kernel
theorem dX12_ways_77 : decode cX12_ways 77 = .ok (.if_icmp .ge 108, 3) := by decide +kernel
theorem dX12_ways_185 : decode cX12_ways 185 = .ok (.lconst 0, 1) := by decide +kernel
theorem dX12_ways_186 : decode cX12_ways 186 = .ok (.lstore 4, 2) := by decide +kernel
theorem dX12_ways_188 : decode cX12_ways 188 = .ok (.iconst 0, 1) := by decide +kernel
theorem dX12_ways_189 : decode cX12_ways 189 = .ok (.istore 6, 2) := by decide +kernel
theorem dX12_ways_191 : decode cX12_ways 191 = .ok (.iload 6, 2) := by decide +kernel
theorem dX12_ways_193 : decode cX12_ways 193 = .ok (.bipush 16, 2) := by decide +kernel
theorem dX12_ways_195 : decode cX12_ways 195 = .ok (.if_icmp .ge 34, 3) := by decide +kernel
theorem dX12_ways_229 : decode cX12_ways 229 = .ok (.lload 4, 2) := by decide +kernel
theorem dX12_ways_231 : decode cX12_ways 231 = .ok (.lreturn, 1) := by decide +kernel
theorem dX12_ways_198 : decode cX12_ways 198 = .ok (.lload 4, 2) := by decide +kernel
theorem dX12_ways_200 : decode cX12_ways 200 = .ok (.iload 6, 2) := by decide +kernel
theorem m_1654 : (Cond.methodLink "NoonValleyModel" 334 yJ6_bitCount_0f7a4) ∈ BW := bw (tb7 214 (by decide +kernel)) (by decide +kernel)
theorem vX12_334 : LST RX12 334 yJ6_bitCount_0f7a4 cJ6_bitCount_0f7a4 1 (some .int) 1 := ⟨m_1654, m_810, m_20, m_811, by decide, by decide, by decide +kernel⟩
theorem dX12_ways_202 : decode cX12_ways 202 = .ok (.invokestatic 334, 3) := by decide +kernel
theorem dX12_ways_205 : decode cX12_ways 205 = .ok (.iload_n 3, 1) := by decide +kernel
theorem dX12_ways_206 : decode cX12_ways 206 = .ok (.if_icmp .ne 13, 3) := by decide +kernel
theorem dX12_ways_219 : decode cX12_ways 219 = .ok (.lconst 0, 1) := by decide +kernel
theorem dX12_ways_220 : decode cX12_ways 220 = .ok (.ladd, 1) := by decide +kernel
theorem dX12_ways_221 : decode cX12_ways 221 = .ok (.lstore 4, 2) := by decide +kernel
theorem dX12_ways_223 : decode cX12_ways 223 = .ok (.iinc 6 1, 3) := by decide +kernel
theorem dX12_ways_226 : decode cX12_ways 226 = .ok (.goto (-35), 3) := by decide +kernel
theorem dX12_ways_209 : decode cX12_ways 209 = .ok (.aload_n 0, 1) := by decide +kernel
theorem dX12_ways_210 : decode cX12_ways 210 = .ok (.getfield 144, 3) := by decide +kernel
theorem dX12_ways_213 : decode cX12_ways 213 = .ok (.iload 6, 2) := by decide +kernel
theorem dX12_ways_215 : decode cX12_ways 215 = .ok (.laload, 1) := by decide +kernel
theorem dX12_ways_216 : decode cX12_ways 216 = .ok (.goto 4, 3) := by decide +kernel
theorem dX12_ways_80 : decode cX12_ways 80 = .ok (.iconst 0, 1) := by decide +kernel
theorem dX12_ways_81 : decode cX12_ways 81 = .ok (.istore 5, 2) := by decide +kernel
theorem dX12_ways_83 : decode cX12_ways 83 = .ok (.iload 5, 2) := by decide +kernel
theorem dX12_ways_85 : decode cX12_ways 85 = .ok (.bipush 16, 2) := by decide +kernel
theorem dX12_ways_87 : decode cX12_ways 87 = .ok (.if_icmp .ge 17, 3) := by decide +kernel
theorem dX12_ways_104 : decode cX12_ways 104 = .ok (.iconst 0, 1) := by decide +kernel
theorem dX12_ways_105 : decode cX12_ways 105 = .ok (.istore 5, 2) := by decide +kernel
theorem dX12_ways_107 : decode cX12_ways 107 = .ok (.iload 5, 2) := by decide +kernel
theorem dX12_ways_109 : decode cX12_ways 109 = .ok (.iconst 1, 1) := by decide +kernel
theorem dX12_ways_110 : decode cX12_ways 110 = .ok (.iload_n 1, 1) := by decide +kernel
theorem dX12_ways_111 : decode cX12_ways 111 = .ok (.ishl, 1) := by decide +kernel
theorem dX12_ways_112 : decode cX12_ways 112 = .ok (.if_icmp .ge 37, 3) := by decide +kernel
theorem dX12_ways_149 : decode cX12_ways 149 = .ok (.iconst 0, 1) := by decide +kernel
theorem dX12_ways_150 : decode cX12_ways 150 = .ok (.istore 5, 2) := by decide +kernel
theorem dX12_ways_152 : decode cX12_ways 152 = .ok (.iload 5, 2) := by decide +kernel
theorem dX12_ways_154 : decode cX12_ways 154 = .ok (.bipush 16, 2) := by decide +kernel
theorem dX12_ways_156 : decode cX12_ways 156 = .ok (.if_icmp .ge 23, 3) := by decide +kernel
theorem dX12_ways_179 : decode cX12_ways 179 = .ok (.iinc 4 1, 3) := by decide +kernel
theorem dX12_ways_182 : decode cX12_ways 182 = .ok (.goto (-108), 3) := by decide +kernel
theorem dX12_ways_159 : decode cX12_ways 159 = .ok (.aload_n 0, 1) := by decide +kernel
theorem dX12_ways_160 : decode cX12_ways 160 = .ok (.getfield 144, 3) := by decide +kernel
theorem dX12_ways_163 : decode cX12_ways 163 = .ok (.iload 5, 2) := by decide +kernel
theorem dX12_ways_165 : decode cX12_ways 165 = .ok (.aload_n 0, 1) := by decide +kernel
theorem dX12_ways_166 : decode cX12_ways 166 = .ok (.getfield 148, 3) := by decide +kernel
theorem dX12_ways_169 : decode cX12_ways 169 = .ok (.iload 5, 2) := by decide +kernel
theorem dX12_ways_171 : decode cX12_ways 171 = .ok (.laload, 1) := by decide +kernel
theorem dX12_ways_172 : decode cX12_ways 172 = .ok (.lastore, 1) := by decide +kernel
theorem dX12_ways_173 : decode cX12_ways 173 = .ok (.iinc 5 1, 3) := by decide +kernel
theorem dX12_ways_176 : decode cX12_ways 176 = .ok (.goto (-24), 3) := by decide +kernel
theorem dX12_ways_115 : decode cX12_ways 115 = .ok (.aload_n 0, 1) := by decide +kernel
theorem dX12_ways_116 : decode cX12_ways 116 = .ok (.getfield 144, 3) := by decide +kernel
theorem dX12_ways_119 : decode cX12_ways 119 = .ok (.iload 5, 2) := by decide +kernel
theorem dX12_ways_121 : decode cX12_ways 121 = .ok (.laload, 1) := by decide +kernel
theorem dX12_ways_122 : decode cX12_ways 122 = .ok (.lconst 0, 1) := by decide +kernel
theorem dX12_ways_123 : decode cX12_ways 123 = .ok (.lcmp, 1) := by decide +kernel
theorem dX12_ways_124 : decode cX12_ways 124 = .ok (.ifCond .le 19, 3) := by decide +kernel
theorem dX12_ways_143 : decode cX12_ways 143 = .ok (.iinc 5 1, 3) := by decide +kernel
theorem dX12_ways_146 : decode cX12_ways 146 = .ok (.goto (-39), 3) := by decide +kernel
theorem dX12_ways_127 : decode cX12_ways 127 = .ok (.aload_n 0, 1) := by decide +kernel
theorem dX12_ways_128 : decode cX12_ways 128 = .ok (.iload_n 1, 1) := by decide +kernel
theorem dX12_ways_129 : decode cX12_ways 129 = .ok (.iload 5, 2) := by decide +kernel
theorem dX12_ways_131 : decode cX12_ways 131 = .ok (.iconst 0, 1) := by decide +kernel
theorem dX12_ways_132 : decode cX12_ways 132 = .ok (.iconst 0, 1) := by decide +kernel
theorem dX12_ways_133 : decode cX12_ways 133 = .ok (.aload_n 0, 1) := by decide +kernel
theorem dX12_ways_134 : decode cX12_ways 134 = .ok (.getfield 144, 3) := by decide +kernel
theorem dX12_ways_137 : decode cX12_ways 137 = .ok (.iload 5, 2) := by decide +kernel
theorem dX12_ways_139 : decode cX12_ways 139 = .ok (.laload, 1) := by decide +kernel
theorem dX12_ways_140 : decode cX12_ways 140 = .ok (.invokevirtual 388, 3) := by decide +kernel
theorem dX12_ways_90 : decode cX12_ways 90 = .ok (.aload_n 0, 1) := by decide +kernel
theorem dX12_ways_91 : decode cX12_ways 91 = .ok (.getfield 148, 3) := by decide +kernel
theorem dX12_ways_94 : decode cX12_ways 94 = .ok (.iload 5, 2) := by decide +kernel
theorem dX12_ways_96 : decode cX12_ways 96 = .ok (.lconst 0, 1) := by decide +kernel
theorem dX12_ways_97 : decode cX12_ways 97 = .ok (.lastore, 1) := by decide +kernel
theorem dX12_ways_98 : decode cX12_ways 98 = .ok (.iinc 5 1, 3) := by decide +kernel
theorem dX12_ways_101 : decode cX12_ways 101 = .ok (.goto (-18), 3) := by decide +kernel
theorem dX12_ways_47 : decode cX12_ways 47 = .ok (.aload_n 0, 1) := by decide +kernel
theorem dX12_ways_48 : decode cX12_ways 48 = .ok (.getfield 144, 3) := by decide +kernel
theorem dX12_ways_51 : decode cX12_ways 51 = .ok (.iload 4, 2) := by decide +kernel
theorem dX12_ways_53 : decode cX12_ways 53 = .ok (.iload 4, 2) := by decide +kernel
theorem dX12_ways_55 : decode cX12_ways 55 = .ok (.iconst 1, 1) := by decide +kernel
theorem dX12_ways_56 : decode cX12_ways 56 = .ok (.if_icmp .ne 7, 3) := by decide +kernel
theorem dX12_ways_63 : decode cX12_ways 63 = .ok (.lconst 0, 1) := by decide +kernel
theorem dX12_ways_64 : decode cX12_ways 64 = .ok (.lastore, 1) := by decide +kernel
theorem dX12_ways_65 : decode cX12_ways 65 = .ok (.iinc 4 1, 3) := by decide +kernel
theorem dX12_ways_68 : decode cX12_ways 68 = .ok (.goto (-28), 3) := by decide +kernel
theorem dX12_ways_59 : decode cX12_ways 59 = .ok (.lconst 1, 1) := by decide +kernel
theorem dX12_ways_60 : decode cX12_ways 60 = .ok (.goto 4, 3) := by decide +kernel
set_option maxHeartbeats 4000000 in
set_option maxRecDepth 100000 in
theorem C_X2_power (l : Launch) (g : GG) (b x : Nat) (hb2 : b < 2 ^ 31) (hx2 : x < 2 ^ 30) : MetL l g yX2_power cX2_power 5 (some .long) 0 0 0 [.int (nI b), .int (nI x)] [] (fun r u => r = lN (pw b x) ∧ u = []) := by
  refine MetL.of (own := RX2) rfl (by decide) (Nat.le_of_ble_eq_true rfl) ?_
  intro p e s m below meth c A ls args Q hQ X hr hin hW hl
  have hx := X.1
  have hb := X.2.1
  have hl : lv_has ls 5 [(0, .int (nI b)), (1, .int (nI x))] := hl
  refine lv_lconst (v := 1) (pc := 0) hx hb dX2_power_0 (by decide) ?_
  refine lv_lstore_n (lv' := [(2, .long 1), (0, .int (nI b)), (1, .int (nI x))]) (pc := 1) hx hb dX2_power_1 rfl hl (by decide) rfl (fun ls hl => ?_)
  refine lv_iconst (v := 0) (pc := 2) hx hb dX2_power_2 (by decide) ?_
  refine lv_istore (lv' := [(4, .int 0), (2, .long 1), (0, .int (nI b)), (1, .int (nI x))]) (pc := 3) hx hb dX2_power_3 hl (by decide) rfl (fun ls hl => ?_)
  have loop1 : ∀ (fu : Nat) (i : Nat), (x < fu + i) → (i ≤ x) → ∀ (H : Heap) (locs : List Loc) (ls : Array Slot), WD g A s H locs [] → lv_has ls 5 [(0, .int (nI b)), (1, .int (nI x)), (2, .long (lN (pw b i))), (4, .int (nI i))] → W p l e (RM 0 0 0) s m args below meth c H locs 0 0 Q (F0 m 5 ls []) := by
    intro fu
    induction fu with
    | zero =>
      intro i hm hi
      exact absurd hm (by omega)
    | succ fu ih1 =>
      intro i hm hi H locs ls hW hl
      refine lv_iload (pc := 5) hx hb dX2_power_5 (lv_at hl 3 rfl) ?_
      refine lv_iload_n (pc := 7) hx hb dX2_power_7 rfl (lv_at hl 1 rfl) ?_
      refine lv_icmp_ge (tgt := 22) (pc := 8) hx hb dX2_power_8 rfl (fun c1 => ?_) (fun c1 => ?_)
      · have hix : i = x := by have := ge_t (k := x) (by omega) (by omega) c1; omega
        refine lv_lload_n (pc := 22) hx hb dX2_power_22 rfl (lv_at hl 2 rfl) ?_
        exact e_l X hQ hr hW (u := []) [] rfl rfl (⟨by rw [hix], rfl⟩) ⟨Nat.le_of_ble_eq_true rfl, Nat.le_of_ble_eq_true rfl⟩ dX2_power_23
      · have hlt : i < x := ge_f (by omega) (by omega) c1
        refine lv_lload_n (pc := 11) hx hb dX2_power_11 rfl (lv_at hl 2 rfl) ?_
        refine lv_iload_n (pc := 12) hx hb dX2_power_12 rfl (lv_at hl 0 rfl) ?_
        refine lv_i2l (v := lN b) (pc := 13) hx hb dX2_power_13 (nI_l hb2) ?_
        refine lv_lmul (pc := 14) hx hb dX2_power_14 ?_
        refine lv_topl (fun v2 ev2 => ?_)
        obtain rfl : v2 = lN (pw b (i + 1)) := ev2.trans (lN_mul _ _)
        refine lv_lstore_n (lv' := [(2, .long (lN (pw b (i + 1)))), (0, .int (nI b)), (1, .int (nI x)), (4, .int (nI i))]) (pc := 15) hx hb dX2_power_15 rfl hl (by decide) rfl (fun ls hl => ?_)
        refine lv_iinc (v := nI (i + 1)) (lv' := [(4, .int (nI (i + 1))), (2, .long (lN (pw b (i + 1)))), (0, .int (nI b)), (1, .int (nI x))]) (pc := 16) hx hb dX2_power_16 hl (k := 3) rfl (nI_1 i) (by decide) rfl (fun ls hl => ?_)
        refine lv_goto (tgt := 5) (pc := 19) hx hb dX2_power_19 rfl ?_
        exact ih1 (i + 1) (by omega) (by omega) _ _ _ hW (lv_sub hl [2, 3, 1, 0] rfl)
  exact loop1 (x + 1) 0 (by omega) (by omega) _ _ _ hW (lv_sub hl [2, 3, 1, 0] rfl)

set_option maxHeartbeats 4000000 in
set_option maxRecDepth 100000 in
theorem C_J6_bitCount_0f7a4 (l : Launch) (g : GG) (x : Int32) : MetI l g yJ6_bitCount_0f7a4 cJ6_bitCount_0f7a4 1 (some .int) 0 0 0 [.int x] [] (fun r u => r = bcv x ∧ u = []) := by
  refine MetI.of (own := RJ6) rfl (by decide) (Nat.le_of_ble_eq_true rfl) ?_
  intro p e s m below meth c A ls args Q hQ X hr hin hW hl
  have hx := X.1
  have hb := X.2.1
  have hl : lv_has ls 1 [(0, .int x)] := hl
  refine lv_iload_n (pc := 0) hx hb dJ6_bitCount_0f7a4_0 rfl (lv_at hl 0 rfl) ?_
  refine lv_iload_n (pc := 1) hx hb dJ6_bitCount_0f7a4_1 rfl (lv_at hl 0 rfl) ?_
  refine lv_iconst (v := 1) (pc := 2) hx hb dJ6_bitCount_0f7a4_2 (by decide) ?_
  refine lv_iushr (pc := 3) hx hb dJ6_bitCount_0f7a4_3 rfl ?_
  refine lv_ldcw (pc := 4) hx hb X.2.2.2.1 (X.2.2.2.2.1 _ m_812) dJ6_bitCount_0f7a4_4 ?_
  refine lv_iand (pc := 7) hx hb dJ6_bitCount_0f7a4_7 ?_
  refine lv_isub (pc := 8) hx hb dJ6_bitCount_0f7a4_8 ?_
  refine lv_topi (fun v1 ev1 => ?_)
  obtain rfl : v1 = bc1 x := ev1.trans (rfl)
  refine lv_istore_n (lv' := [(0, .int (bc1 x))]) (pc := 9) hx hb dJ6_bitCount_0f7a4_9 rfl hl (by decide) rfl (fun ls hl => ?_)
  refine lv_iload_n (pc := 10) hx hb dJ6_bitCount_0f7a4_10 rfl (lv_at hl 0 rfl) ?_
  refine lv_ldcw (pc := 11) hx hb X.2.2.2.1 (X.2.2.2.2.1 _ m_813) dJ6_bitCount_0f7a4_11 ?_
  refine lv_iand (pc := 14) hx hb dJ6_bitCount_0f7a4_14 ?_
  refine lv_iload_n (pc := 15) hx hb dJ6_bitCount_0f7a4_15 rfl (lv_at hl 0 rfl) ?_
  refine lv_iconst (v := 2) (pc := 16) hx hb dJ6_bitCount_0f7a4_16 (by decide) ?_
  refine lv_iushr (pc := 17) hx hb dJ6_bitCount_0f7a4_17 rfl ?_
  refine lv_ldcw (pc := 18) hx hb X.2.2.2.1 (X.2.2.2.2.1 _ m_813) dJ6_bitCount_0f7a4_18 ?_
  refine lv_iand (pc := 21) hx hb dJ6_bitCount_0f7a4_21 ?_
  refine lv_iadd (pc := 22) hx hb dJ6_bitCount_0f7a4_22 ?_
  refine lv_topi (fun v2 ev2 => ?_)
  obtain rfl : v2 = bc2 (bc1 x) := ev2.trans (rfl)
  refine lv_istore_n (lv' := [(0, .int (bc2 (bc1 x)))]) (pc := 23) hx hb dJ6_bitCount_0f7a4_23 rfl hl (by decide) rfl (fun ls hl => ?_)
  refine lv_iload_n (pc := 24) hx hb dJ6_bitCount_0f7a4_24 rfl (lv_at hl 0 rfl) ?_
  refine lv_iload_n (pc := 25) hx hb dJ6_bitCount_0f7a4_25 rfl (lv_at hl 0 rfl) ?_
  refine lv_iconst (v := 4) (pc := 26) hx hb dJ6_bitCount_0f7a4_26 (by decide) ?_
  refine lv_iushr (pc := 27) hx hb dJ6_bitCount_0f7a4_27 rfl ?_
  refine lv_iadd (pc := 28) hx hb dJ6_bitCount_0f7a4_28 ?_
  refine lv_ldcw (pc := 29) hx hb X.2.2.2.1 (X.2.2.2.2.1 _ m_814) dJ6_bitCount_0f7a4_29 ?_
  refine lv_iand (pc := 32) hx hb dJ6_bitCount_0f7a4_32 ?_
  refine lv_topi (fun v3 ev3 => ?_)
  obtain rfl : v3 = bc3 (bc2 (bc1 x)) := ev3.trans (rfl)
  refine lv_istore_n (lv' := [(0, .int (bc3 (bc2 (bc1 x))))]) (pc := 33) hx hb dJ6_bitCount_0f7a4_33 rfl hl (by decide) rfl (fun ls hl => ?_)
  refine lv_iload_n (pc := 34) hx hb dJ6_bitCount_0f7a4_34 rfl (lv_at hl 0 rfl) ?_
  refine lv_iload_n (pc := 35) hx hb dJ6_bitCount_0f7a4_35 rfl (lv_at hl 0 rfl) ?_
  refine lv_bipush (v := 8) (pc := 36) hx hb dJ6_bitCount_0f7a4_36 (by decide) ?_
  refine lv_iushr (pc := 38) hx hb dJ6_bitCount_0f7a4_38 rfl ?_
  refine lv_iadd (pc := 39) hx hb dJ6_bitCount_0f7a4_39 ?_
  refine lv_topi (fun v4 ev4 => ?_)
  obtain rfl : v4 = bc4 (bc3 (bc2 (bc1 x))) := ev4.trans (rfl)
  refine lv_istore_n (lv' := [(0, .int (bc4 (bc3 (bc2 (bc1 x)))))]) (pc := 40) hx hb dJ6_bitCount_0f7a4_40 rfl hl (by decide) rfl (fun ls hl => ?_)
  refine lv_iload_n (pc := 41) hx hb dJ6_bitCount_0f7a4_41 rfl (lv_at hl 0 rfl) ?_
  refine lv_iload_n (pc := 42) hx hb dJ6_bitCount_0f7a4_42 rfl (lv_at hl 0 rfl) ?_
  refine lv_bipush (v := 16) (pc := 43) hx hb dJ6_bitCount_0f7a4_43 (by decide) ?_
  refine lv_iushr (pc := 45) hx hb dJ6_bitCount_0f7a4_45 rfl ?_
  refine lv_iadd (pc := 46) hx hb dJ6_bitCount_0f7a4_46 ?_
  refine lv_topi (fun v5 ev5 => ?_)
  obtain rfl : v5 = bc5 (bc4 (bc3 (bc2 (bc1 x)))) := ev5.trans (rfl)
  refine lv_istore_n (lv' := [(0, .int (bc5 (bc4 (bc3 (bc2 (bc1 x))))))]) (pc := 47) hx hb dJ6_bitCount_0f7a4_47 rfl hl (by decide) rfl (fun ls hl => ?_)
  refine lv_iload_n (pc := 48) hx hb dJ6_bitCount_0f7a4_48 rfl (lv_at hl 0 rfl) ?_
  refine lv_bipush (v := 63) (pc := 49) hx hb dJ6_bitCount_0f7a4_49 (by decide) ?_
  refine lv_iand (pc := 51) hx hb dJ6_bitCount_0f7a4_51 ?_
  refine lv_topi (fun v6 ev6 => ?_)
  obtain rfl : v6 = bcv x := ev6.trans (rfl)
  exact e_i X hQ hr hW (u := []) [] rfl rfl (⟨rfl, rfl⟩) ⟨Nat.le_of_ble_eq_true rfl, Nat.le_of_ble_eq_true rfl⟩ dJ6_bitCount_0f7a4_52

set_option maxHeartbeats 4000000 in
set_option maxRecDepth 100000 in
theorem C_J7_fill_d0a16 (l : Launch) (g : GG) (h0 : Nat) (f : Nat → Int64) : MetV l g yJ7_fill_d0a16 cJ7_fill_d0a16 5 none 0 0 0 [.ref h0, .long 0] [(h0, .inl (g.2.1 2, 5, .inr (.inl f)))] (fun u => ∃ f' : Nat → Int64, u = [(h0, .inl (g.2.1 2, 5, .inr (.inl f')))] ∧ ∀ j, f' j = if j < 5 then 0 else f j) := by
  refine MetV.of (own := RJ7) rfl (by decide) (Nat.le_of_ble_eq_true rfl) ?_
  intro p e s m below meth c A ls args Q hQ X hr hin hW hl
  have hx := X.1
  have hb := X.2.1
  have hl : lv_has ls 5 [(0, .ref h0), (1, .long 0)] := hl
  refine lv_iconst (v := 0) (pc := 0) hx hb dJ7_fill_d0a16_0 (by decide) ?_
  refine lv_istore_n (lv' := [(3, .int 0), (0, .ref h0), (1, .long 0)]) (pc := 1) hx hb dJ7_fill_d0a16_1 rfl hl (by decide) rfl (fun ls hl => ?_)
  refine lv_aload_n (pc := 2) hx hb dJ7_fill_d0a16_2 rfl (lv_at hl 1 rfl) ?_
  refine r_alen (v := 5) X hW 0 2 rfl rfl rfl dJ7_fill_d0a16_3 ?_
  refine lv_istore (lv' := [(4, .int 5), (3, .int 0), (0, .ref h0), (1, .long 0)]) (pc := 4) hx hb dJ7_fill_d0a16_4 hl (by decide) rfl (fun ls hl => ?_)
  refine lv_iload_n (pc := 6) hx hb dJ7_fill_d0a16_6 rfl (lv_at hl 1 rfl) ?_
  refine lv_iload (pc := 7) hx hb dJ7_fill_d0a16_7 (lv_at hl 0 rfl) ?_
  refine lv_icmp_ge (tgt := 22) (pc := 9) hx hb dJ7_fill_d0a16_9 rfl (fun c1 => absurd c1 (by decide)) (fun c1 => ?_)
  refine lv_aload_n (pc := 12) hx hb dJ7_fill_d0a16_12 rfl (lv_at hl 2 rfl) ?_
  refine lv_iload_n (pc := 13) hx hb dJ7_fill_d0a16_13 rfl (lv_at hl 1 rfl) ?_
  refine lv_lload_n (pc := 14) hx hb dJ7_fill_d0a16_14 rfl (lv_at hl 3 rfl) ?_
  obtain ⟨f2, ef2⟩ : ∃ fz : Nat → Int64, vp_updL f (0 : Int32).toNatClampNeg 0 = fz := ⟨_, rfl⟩
  refine r_last (ws' := [(h0, .inl (g.2.1 2, 5, .inr (.inl f2)))]) X hW 0 rfl (by unfold vp_in; decide) ef2 rfl dJ7_fill_d0a16_15 (fun H locs hW => ?_)
  refine lv_iinc (v := 1) (lv' := [(3, .int 1), (4, .int 5), (0, .ref h0), (1, .long 0)]) (pc := 16) hx hb dJ7_fill_d0a16_16 hl (k := 1) rfl (by decide +kernel) (by decide) rfl (fun ls hl => ?_)
  refine lv_goto (tgt := 6) (pc := 19) hx hb dJ7_fill_d0a16_19 rfl ?_
  refine lv_iload_n (pc := 6) hx hb dJ7_fill_d0a16_6 rfl (lv_at hl 0 rfl) ?_
  refine lv_iload (pc := 7) hx hb dJ7_fill_d0a16_7 (lv_at hl 1 rfl) ?_
  refine lv_icmp_ge (tgt := 22) (pc := 9) hx hb dJ7_fill_d0a16_9 rfl (fun c3 => absurd c3 (by decide)) (fun c3 => ?_)
  refine lv_aload_n (pc := 12) hx hb dJ7_fill_d0a16_12 rfl (lv_at hl 2 rfl) ?_
  refine lv_iload_n (pc := 13) hx hb dJ7_fill_d0a16_13 rfl (lv_at hl 0 rfl) ?_
  refine lv_lload_n (pc := 14) hx hb dJ7_fill_d0a16_14 rfl (lv_at hl 3 rfl) ?_
  obtain ⟨f4, ef4⟩ : ∃ fz : Nat → Int64, vp_updL f2 (1 : Int32).toNatClampNeg 0 = fz := ⟨_, rfl⟩
  refine r_last (ws' := [(h0, .inl (g.2.1 2, 5, .inr (.inl f4)))]) X hW 0 rfl (by unfold vp_in; decide) ef4 rfl dJ7_fill_d0a16_15 (fun H locs hW => ?_)
  refine lv_iinc (v := 2) (lv' := [(3, .int 2), (4, .int 5), (0, .ref h0), (1, .long 0)]) (pc := 16) hx hb dJ7_fill_d0a16_16 hl (k := 0) rfl (by decide +kernel) (by decide) rfl (fun ls hl => ?_)
  refine lv_goto (tgt := 6) (pc := 19) hx hb dJ7_fill_d0a16_19 rfl ?_
  refine lv_iload_n (pc := 6) hx hb dJ7_fill_d0a16_6 rfl (lv_at hl 0 rfl) ?_
  refine lv_iload (pc := 7) hx hb dJ7_fill_d0a16_7 (lv_at hl 1 rfl) ?_
  refine lv_icmp_ge (tgt := 22) (pc := 9) hx hb dJ7_fill_d0a16_9 rfl (fun c5 => absurd c5 (by decide)) (fun c5 => ?_)
  refine lv_aload_n (pc := 12) hx hb dJ7_fill_d0a16_12 rfl (lv_at hl 2 rfl) ?_
  refine lv_iload_n (pc := 13) hx hb dJ7_fill_d0a16_13 rfl (lv_at hl 0 rfl) ?_
  refine lv_lload_n (pc := 14) hx hb dJ7_fill_d0a16_14 rfl (lv_at hl 3 rfl) ?_
  obtain ⟨f6, ef6⟩ : ∃ fz : Nat → Int64, vp_updL f4 (2 : Int32).toNatClampNeg 0 = fz := ⟨_, rfl⟩
  refine r_last (ws' := [(h0, .inl (g.2.1 2, 5, .inr (.inl f6)))]) X hW 0 rfl (by unfold vp_in; decide) ef6 rfl dJ7_fill_d0a16_15 (fun H locs hW => ?_)
  refine lv_iinc (v := 3) (lv' := [(3, .int 3), (4, .int 5), (0, .ref h0), (1, .long 0)]) (pc := 16) hx hb dJ7_fill_d0a16_16 hl (k := 0) rfl (by decide +kernel) (by decide) rfl (fun ls hl => ?_)
  refine lv_goto (tgt := 6) (pc := 19) hx hb dJ7_fill_d0a16_19 rfl ?_
  refine lv_iload_n (pc := 6) hx hb dJ7_fill_d0a16_6 rfl (lv_at hl 0 rfl) ?_
  refine lv_iload (pc := 7) hx hb dJ7_fill_d0a16_7 (lv_at hl 1 rfl) ?_
  refine lv_icmp_ge (tgt := 22) (pc := 9) hx hb dJ7_fill_d0a16_9 rfl (fun c7 => absurd c7 (by decide)) (fun c7 => ?_)
  refine lv_aload_n (pc := 12) hx hb dJ7_fill_d0a16_12 rfl (lv_at hl 2 rfl) ?_
  refine lv_iload_n (pc := 13) hx hb dJ7_fill_d0a16_13 rfl (lv_at hl 0 rfl) ?_
  refine lv_lload_n (pc := 14) hx hb dJ7_fill_d0a16_14 rfl (lv_at hl 3 rfl) ?_
  obtain ⟨f8, ef8⟩ : ∃ fz : Nat → Int64, vp_updL f6 (3 : Int32).toNatClampNeg 0 = fz := ⟨_, rfl⟩
  refine r_last (ws' := [(h0, .inl (g.2.1 2, 5, .inr (.inl f8)))]) X hW 0 rfl (by unfold vp_in; decide) ef8 rfl dJ7_fill_d0a16_15 (fun H locs hW => ?_)
  refine lv_iinc (v := 4) (lv' := [(3, .int 4), (4, .int 5), (0, .ref h0), (1, .long 0)]) (pc := 16) hx hb dJ7_fill_d0a16_16 hl (k := 0) rfl (by decide +kernel) (by decide) rfl (fun ls hl => ?_)
  refine lv_goto (tgt := 6) (pc := 19) hx hb dJ7_fill_d0a16_19 rfl ?_
  refine lv_iload_n (pc := 6) hx hb dJ7_fill_d0a16_6 rfl (lv_at hl 0 rfl) ?_
  refine lv_iload (pc := 7) hx hb dJ7_fill_d0a16_7 (lv_at hl 1 rfl) ?_
  refine lv_icmp_ge (tgt := 22) (pc := 9) hx hb dJ7_fill_d0a16_9 rfl (fun c9 => absurd c9 (by decide)) (fun c9 => ?_)
  refine lv_aload_n (pc := 12) hx hb dJ7_fill_d0a16_12 rfl (lv_at hl 2 rfl) ?_
  refine lv_iload_n (pc := 13) hx hb dJ7_fill_d0a16_13 rfl (lv_at hl 0 rfl) ?_
  refine lv_lload_n (pc := 14) hx hb dJ7_fill_d0a16_14 rfl (lv_at hl 3 rfl) ?_
  obtain ⟨f10, ef10⟩ : ∃ fz : Nat → Int64, vp_updL f8 (4 : Int32).toNatClampNeg 0 = fz := ⟨_, rfl⟩
  refine r_last (ws' := [(h0, .inl (g.2.1 2, 5, .inr (.inl f10)))]) X hW 0 rfl (by unfold vp_in; decide) ef10 rfl dJ7_fill_d0a16_15 (fun H locs hW => ?_)
  refine lv_iinc (v := 5) (lv' := [(3, .int 5), (4, .int 5), (0, .ref h0), (1, .long 0)]) (pc := 16) hx hb dJ7_fill_d0a16_16 hl (k := 0) rfl (by decide +kernel) (by decide) rfl (fun ls hl => ?_)
  refine lv_goto (tgt := 6) (pc := 19) hx hb dJ7_fill_d0a16_19 rfl ?_
  refine lv_iload_n (pc := 6) hx hb dJ7_fill_d0a16_6 rfl (lv_at hl 0 rfl) ?_
  refine lv_iload (pc := 7) hx hb dJ7_fill_d0a16_7 (lv_at hl 1 rfl) ?_
  refine lv_icmp_ge (tgt := 22) (pc := 9) hx hb dJ7_fill_d0a16_9 rfl (fun c11 => ?_) (fun c11 => absurd (by decide) c11)
  exact e_v X hQ hr hW (u := [(h0, .inl (g.2.1 2, 5, .inr (.inl f10)))]) [0] rfl rfl (⟨f10, rfl, fun j => by rw [updL_at (i := 4) (by decide) ef10 j, updL_at (i := 3) (by decide) ef8 j, updL_at (i := 2) (by decide) ef6 j, updL_at (i := 1) (by decide) ef4 j, updL_at (i := 0) (by decide) ef2 j]; (repeat' split) <;> first | rfl | (exfalso; omega)⟩) ⟨Nat.le_of_ble_eq_true rfl, Nat.le_of_ble_eq_true rfl⟩ dJ7_fill_d0a16_22

set_option maxHeartbeats 4000000 in
set_option maxRecDepth 100000 in
theorem C_X2_goOn (l : Launch) (g : GG) (h0 c0 c1 n kw : Nat) (la lb : List Int64) (hn : 2 ≤ n) (hn4 : n ≤ 4) (hk1 : 1 ≤ kw) (hk : kw ≤ n) (hlb : lb.length = 5) : MetV l g yX2_goOn cX2_goOn 13 none 1 0 0 [.ref h0, .int (nI n), .int (nI kw)] [(h0, .inr (2, [.ref c0, .ref c1])), (c0, .inl (g.2.1 2, 5, .inr (.inl (lf la)))), (c1, .inl (g.2.1 2, 5, .inr (.inl (lf (lb)))))] (fun u => u = [(h0, .inr (2, [.ref c0, .ref c1])), (c0, .inl (g.2.1 2, 5, .inr (.inl (lf la)))), (c1, .inl (g.2.1 2, 5, .inr (.inl (lf (goL n kw (la.getD kw 0 * lN (pw (n - 1) (n - kw))) lb (pw (n - 1) kw))))))]) := by
  refine MetV.of (own := RX2) rfl (by decide) (Nat.le_of_ble_eq_true rfl) ?_
  intro p e s m below meth c A ls args Q hQ X hr hin hW hl
  have hx := X.1
  have hb := X.2.1
  have hl : lv_has ls 13 [(0, .ref h0), (1, .int (nI n)), (2, .int (nI kw))] := hl
  have hpw := pw81 n (by omega) kw (by omega)
  refine lv_iload_n (pc := 0) hx hb dX2_goOn_0 rfl (lv_at hl 1 rfl) ?_
  refine lv_iconst (v := 1) (pc := 1) hx hb dX2_goOn_1 (by decide) ?_
  refine lv_isub (pc := 2) hx hb dX2_goOn_2 ?_
  refine lv_topi (fun v1 ev1 => ?_)
  obtain rfl : v1 = nI (n - 1) := ev1.trans (pk_sub (a := n) (b := 1) (by omega))
  refine lv_iload_n (pc := 3) hx hb dX2_goOn_3 rfl (lv_at hl 1 rfl) ?_
  refine lv_iload_n (pc := 4) hx hb dX2_goOn_4 rfl (lv_at hl 2 rfl) ?_
  refine lv_isub (pc := 5) hx hb dX2_goOn_5 ?_
  refine lv_topi (fun v2 ev2 => ?_)
  obtain rfl : v2 = nI (n - kw) := ev2.trans (pk_sub hk)
  refine c_Sl (pc := 6) (As := [.int (nI (n - 1)), .int (nI (n - kw))]) (rest := []) (wr := [(h0, .inr (2, [.ref c0, .ref c1])), (c0, .inl (g.2.1 2, 5, .inr (.inl (lf la)))), (c1, .inl (g.2.1 2, 5, .inr (.inl (lf (lb)))))]) X hW (C_X2_power l g (n - 1) (n - kw) (by omega) (by omega)) vX2_28 [] [0, 1, 2] rfl rfl rfl rfl rfl rfl hl.1 rfl (Nat.le_of_ble_eq_true rfl) ⟨Nat.le_of_ble_eq_true rfl, Nat.le_of_ble_eq_true rfl⟩ ⟨Nat.le_of_ble_eq_true rfl, Nat.le_of_ble_eq_true rfl⟩ dX2_goOn_6 (fun r3 u9 H locs hq hW => ?_)
  obtain ⟨rfl, rfl⟩ := hq
  have hW : WD g A s _ _ [(h0, .inr (2, [.ref c0, .ref c1])), (c0, .inl (g.2.1 2, 5, .inr (.inl (lf la)))), (c1, .inl (g.2.1 2, 5, .inr (.inl (lf (lb)))))] := hW
  refine lv_lstore_n (lv' := [(3, .long (lN (pw (n - 1) (n - kw)))), (0, .ref h0), (1, .int (nI n)), (2, .int (nI kw))]) (pc := 9) hx hb dX2_goOn_9 rfl hl (by decide) rfl (fun ls hl => ?_)
  refine lv_iload_n (pc := 10) hx hb dX2_goOn_10 rfl (lv_at hl 2 rfl) ?_
  refine lv_iconst (v := 1) (pc := 11) hx hb dX2_goOn_11 (by decide) ?_
  refine lv_isub (pc := 12) hx hb dX2_goOn_12 ?_
  refine lv_topi (fun v4 ev4 => ?_)
  obtain rfl : v4 = nI (n - 1) := ev4.trans (pk_sub (a := n) (b := 1) (by omega))
  refine lv_iload_n (pc := 13) hx hb dX2_goOn_13 rfl (lv_at hl 3 rfl) ?_
  refine c_Sl (pc := 14) (As := [.int (nI (n - 1)), .int (nI kw)]) (rest := []) (wr := [(h0, .inr (2, [.ref c0, .ref c1])), (c0, .inl (g.2.1 2, 5, .inr (.inl (lf la)))), (c1, .inl (g.2.1 2, 5, .inr (.inl (lf (lb)))))]) X hW (C_X2_power l g (n - 1) kw (by omega) (by omega)) vX2_28 [] [0, 1, 2] rfl rfl rfl rfl rfl rfl hl.1 rfl (Nat.le_of_ble_eq_true rfl) ⟨Nat.le_of_ble_eq_true rfl, Nat.le_of_ble_eq_true rfl⟩ ⟨Nat.le_of_ble_eq_true rfl, Nat.le_of_ble_eq_true rfl⟩ dX2_goOn_14 (fun r5 u9 H locs hq hW => ?_)
  obtain ⟨rfl, rfl⟩ := hq
  have hW : WD g A s _ _ [(h0, .inr (2, [.ref c0, .ref c1])), (c0, .inl (g.2.1 2, 5, .inr (.inl (lf la)))), (c1, .inl (g.2.1 2, 5, .inr (.inl (lf (lb)))))] := hW
  refine lv_lstore (lv' := [(5, .long (lN (pw (n - 1) kw))), (3, .long (lN (pw (n - 1) (n - kw)))), (0, .ref h0), (1, .int (nI n)), (2, .int (nI kw))]) (pc := 17) hx hb dX2_goOn_17 hl (by decide) rfl (fun ls hl => ?_)
  refine lv_lconst (v := 0) (pc := 19) hx hb dX2_goOn_19 (by decide) ?_
  refine lv_lstore (lv' := [(7, .long 0), (5, .long (lN (pw (n - 1) kw))), (3, .long (lN (pw (n - 1) (n - kw)))), (0, .ref h0), (1, .int (nI n)), (2, .int (nI kw))]) (pc := 20) hx hb dX2_goOn_20 hl (by decide) rfl (fun ls hl => ?_)
  have loop1 : ∀ (fu : Nat) (ci : Nat), (pw (n - 1) kw < fu + ci) → (ci ≤ pw (n - 1) kw) → ∀ (H : Heap) (locs : List Loc) (ls : Array Slot), WD g A s H locs [(h0, .inr (2, [.ref c0, .ref c1])), (c0, .inl (g.2.1 2, 5, .inr (.inl (lf la)))), (c1, .inl (g.2.1 2, 5, .inr (.inl (lf (goL n kw (la.getD kw 0 * lN (pw (n - 1) (n - kw))) lb ci)))))] → lv_has ls 13 [(0, .ref h0), (1, .int (nI n)), (2, .int (nI kw)), (3, .long (lN (pw (n - 1) (n - kw)))), (5, .long (lN (pw (n - 1) kw))), (7, .long (lN ci))] → W p l e (RM 1 0 0) s m args below meth c H locs 0 0 Q (F0 m 22 ls []) := by
    intro fu
    induction fu with
    | zero =>
      intro ci hm hc
      exact absurd hm (by omega)
    | succ fu ih1 =>
      intro ci hm hc H locs ls hW hl
      refine lv_lload (pc := 22) hx hb dX2_goOn_22 (lv_at hl 5 rfl) ?_
      refine lv_lload (pc := 24) hx hb dX2_goOn_24 (lv_at hl 4 rfl) ?_
      refine W.lcmp (pc := 26) hx hb dX2_goOn_26 ?_
      refine lv_if_ge (tgt := 133) (pc := 27) hx hb dX2_goOn_27 rfl (fun c6 => ?_) (fun c6 => ?_)
      · have hcc : ci = pw (n - 1) kw := by
          have q := (lg_cmp_ge _ _).mp c6
          rw [pk_lLE (by omega) (by omega)] at q; omega
        rw [hcc] at hW
        exact e_v X hQ hr hW (u := [(h0, .inr (2, [.ref c0, .ref c1])), (c0, .inl (g.2.1 2, 5, .inr (.inl (lf la)))), (c1, .inl (g.2.1 2, 5, .inr (.inl (lf (goL n kw (la.getD kw 0 * lN (pw (n - 1) (n - kw))) lb (pw (n - 1) kw))))))]) [0, 1, 2] rfl rfl (rfl) ⟨Nat.le_of_ble_eq_true rfl, Nat.le_of_ble_eq_true rfl⟩ dX2_goOn_133
      · have hlt : ci < pw (n - 1) kw := by
          have q : ¬ lN (pw (n - 1) kw) ≤ lN ci := fun q => c6 ((lg_cmp_ge _ _).mpr q)
          rw [pk_lLE (by omega) (by omega)] at q; omega
        refine lv_iconst (v := 1) (pc := 30) hx hb dX2_goOn_30 (by decide) ?_
        refine lv_iload_n (pc := 31) hx hb dX2_goOn_31 rfl (lv_at hl 2 rfl) ?_
        refine lv_ishl (pc := 32) hx hb dX2_goOn_32 ?_
        refine lv_topi (fun v7 ev7 => ?_)
        obtain rfl : v7 = nI (2 ^ kw) := ev7.trans (shl_n kw (by omega))
        refine lv_iconst (v := 1) (pc := 33) hx hb dX2_goOn_33 (by decide) ?_
        refine lv_isub (pc := 34) hx hb dX2_goOn_34 ?_
        refine lv_topi (fun v8 ev8 => ?_)
        obtain rfl : v8 = nI (2 ^ kw - 1) := ev8.trans (pk_sub (a := 2 ^ kw) (b := 1) (Nat.pos_of_ne_zero (by simp)))
        refine lv_istore (lv' := [(9, .int (nI (2 ^ kw - 1))), (0, .ref h0), (1, .int (nI n)), (2, .int (nI kw)), (3, .long (lN (pw (n - 1) (n - kw)))), (5, .long (lN (pw (n - 1) kw))), (7, .long (lN ci))]) (pc := 35) hx hb dX2_goOn_35 hl (by decide) rfl (fun ls hl => ?_)
        refine lv_lload (pc := 37) hx hb dX2_goOn_37 (lv_at hl 6 rfl) ?_
        refine lv_lstore (lv' := [(10, .long (lN ci)), (9, .int (nI (2 ^ kw - 1))), (0, .ref h0), (1, .int (nI n)), (2, .int (nI kw)), (3, .long (lN (pw (n - 1) (n - kw)))), (5, .long (lN (pw (n - 1) kw))), (7, .long (lN ci))]) (pc := 39) hx hb dX2_goOn_39 hl (by decide) rfl (fun ls hl => ?_)
        refine lv_iconst (v := 0) (pc := 41) hx hb dX2_goOn_41 (by decide) ?_
        refine lv_istore (lv' := [(12, .int 0), (10, .long (lN ci)), (9, .int (nI (2 ^ kw - 1))), (0, .ref h0), (1, .int (nI n)), (2, .int (nI kw)), (3, .long (lN (pw (n - 1) (n - kw)))), (5, .long (lN (pw (n - 1) kw))), (7, .long (lN ci))]) (pc := 42) hx hb dX2_goOn_42 hl (by decide) rfl (fun ls hl => ?_)
        have loop2 : ∀ (fv : Nat) (o : Nat), (kw < fv + o) → (o ≤ kw) → ∀ (H : Heap) (locs : List Loc) (ls : Array Slot), WD g A s H locs [(h0, .inr (2, [.ref c0, .ref c1])), (c0, .inl (g.2.1 2, 5, .inr (.inl (lf la)))), (c1, .inl (g.2.1 2, 5, .inr (.inl (lf (goL n kw (la.getD kw 0 * lN (pw (n - 1) (n - kw))) lb ci)))))] → lv_has ls 13 [(0, .ref h0), (1, .int (nI n)), (2, .int (nI kw)), (3, .long (lN (pw (n - 1) (n - kw)))), (5, .long (lN (pw (n - 1) kw))), (7, .long (lN ci)), (9, .int (nI (gk n kw ci o).1)), (10, .long (lN (gk n kw ci o).2)), (12, .int (nI o))] → W p l e (RM 1 0 0) s m args below meth c H locs 0 0 Q (F0 m 44 ls []) := by
          intro fv
          induction fv with
          | zero =>
            intro o hm2 ho
            exact absurd hm2 (by omega)
          | succ fv ih2 =>
            intro o hm2 ho H locs ls hW hl
            refine lv_iload (pc := 44) hx hb dX2_goOn_44 (lv_at hl 8 rfl) ?_
            refine lv_iload_n (pc := 46) hx hb dX2_goOn_46 rfl (lv_at hl 2 rfl) ?_
            refine lv_icmp_ge (tgt := 93) (pc := 47) hx hb dX2_goOn_47 rfl (fun c9 => ?_) (fun c9 => ?_)
            · have hok : o = kw := by have := ge_t (k := kw) (by omega) (by omega) c9; omega
              rw [hok] at hl
              obtain ⟨hg1, hg2⟩ := gk_in (kw := kw) (c := ci) hn hn4 (by omega) kw (by omega)
              have hp4 := pop4_le _ hg1
              refine lv_iload (pc := 93) hx hb dX2_goOn_93 (lv_at hl 6 rfl) ?_
              refine c_Si (pc := 95) (As := [.int (nI (gk n kw ci kw).1)]) (rest := []) (wr := [(h0, .inr (2, [.ref c0, .ref c1])), (c0, .inl (g.2.1 2, 5, .inr (.inl (lf la)))), (c1, .inl (g.2.1 2, 5, .inr (.inl (lf (goL n kw (la.getD kw 0 * lN (pw (n - 1) (n - kw))) lb ci)))))]) X hW (C_J6_bitCount_0f7a4 l g (nI (gk n kw ci kw).1)) vX2_41 [] [0, 1, 2] rfl rfl rfl rfl rfl rfl hl.1 rfl (Nat.le_of_ble_eq_true rfl) ⟨Nat.le_of_ble_eq_true rfl, Nat.le_of_ble_eq_true rfl⟩ ⟨Nat.le_of_ble_eq_true rfl, Nat.le_of_ble_eq_true rfl⟩ dX2_goOn_95 (fun r10 u9 H locs hq hW => ?_)
              obtain ⟨hr9, rfl⟩ := hq
              obtain rfl : r10 = nI (pop4 ((gk n kw ci kw).1)) := hr9.trans (bc_n _ hg1)
              have hW : WD g A s _ _ [(h0, .inr (2, [.ref c0, .ref c1])), (c0, .inl (g.2.1 2, 5, .inr (.inl (lf la)))), (c1, .inl (g.2.1 2, 5, .inr (.inl (lf (goL n kw (la.getD kw 0 * lN (pw (n - 1) (n - kw))) lb ci)))))] := hW
              refine lv_istore (lv' := [(12, .int (nI (pop4 ((gk n kw ci kw).1)))), (0, .ref h0), (1, .int (nI n)), (2, .int (nI kw)), (3, .long (lN (pw (n - 1) (n - kw)))), (5, .long (lN (pw (n - 1) kw))), (7, .long (lN ci)), (9, .int (nI (gk n kw ci kw).1)), (10, .long (lN (gk n kw ci kw).2))]) (pc := 98) hx hb dX2_goOn_98 hl (by decide) rfl (fun ls hl => ?_)
              refine lv_iload (pc := 100) hx hb dX2_goOn_100 (lv_at hl 0 rfl) ?_
              refine lv_iconst (v := 4) (pc := 102) hx hb dX2_goOn_102 (by decide) ?_
              refine lv_icmp_gt (tgt := 124) (pc := 103) hx hb dX2_goOn_103 rfl (fun c11 => absurd c11 (fun q => absurd (lt_t (i := 4) (k := pop4 (gk n kw ci kw).1) (by decide) (by omega) q) (by omega))) (fun c11 => ?_)
              refine lv_aload_n (pc := 106) hx hb dX2_goOn_106 rfl (lv_at hl 1 rfl) ?_
              refine r_get X hW 0 ciX2 1 rfl (by decide) m_260 rfl rfl dX2_goOn_107 ?_
              refine lv_iload (pc := 110) hx hb dX2_goOn_110 (lv_at hl 0 rfl) ?_
              refine lv_dup2_11 (pc := 112) hx hb dX2_goOn_112 rfl rfl ?_
              refine r_lald X hW 2 rfl (vp_in_nI (by omega) (by decide)) dX2_goOn_113 ?_
              refine lv_topl (fun v12 ev12 => ?_)
              obtain rfl : v12 = (goL n kw (la.getD kw 0 * lN (pw (n - 1) (n - kw))) lb ci).getD (pop4 (gk n kw ci kw).1) 0 := ev12.trans (by rw [nI_clamp (by omega)])
              refine lv_aload_n (pc := 114) hx hb dX2_goOn_114 rfl (lv_at hl 1 rfl) ?_
              refine r_get X hW 0 ciX2 0 rfl (by decide) m_259 rfl rfl dX2_goOn_115 ?_
              refine lv_iload_n (pc := 118) hx hb dX2_goOn_118 rfl (lv_at hl 3 rfl) ?_
              refine r_lald X hW 1 rfl (vp_in_nI (by omega) (by decide)) dX2_goOn_119 ?_
              refine lv_topl (fun v13 ev13 => ?_)
              obtain rfl : v13 = la.getD kw 0 := ev13.trans (by rw [nI_clamp (by omega)])
              refine lv_lload_n (pc := 120) hx hb dX2_goOn_120 rfl (lv_at hl 4 rfl) ?_
              refine lv_lmul (pc := 121) hx hb dX2_goOn_121 ?_
              refine lv_topl (fun v14 ev14 => ?_)
              obtain rfl : v14 = la.getD kw 0 * lN (pw (n - 1) (n - kw)) := ev14.trans (rfl)
              refine lv_ladd (pc := 122) hx hb dX2_goOn_122 ?_
              obtain ⟨f15, ef15⟩ : ∃ fz : Nat → Int64, vp_updL (lf (goL n kw (la.getD kw 0 * lN (pw (n - 1) (n - kw))) lb ci)) (nI (pop4 ((gk n kw ci kw).1))).toNatClampNeg (((goL n kw (la.getD kw 0 * lN (pw (n - 1) (n - kw))) lb ci).getD (pop4 (gk n kw ci kw).1) 0) + (la.getD kw 0 * lN (pw (n - 1) (n - kw)))) = fz := ⟨_, rfl⟩
              refine r_last (ws' := [(h0, .inr (2, [.ref c0, .ref c1])), (c0, .inl (g.2.1 2, 5, .inr (.inl (lf la)))), (c1, .inl (g.2.1 2, 5, .inr (.inl f15)))]) X hW 2 rfl (vp_in_nI (by omega) (by decide)) ef15 rfl dX2_goOn_123 (fun H locs hW => ?_)
              refine lv_lload (pc := 124) hx hb dX2_goOn_124 (lv_at hl 6 rfl) ?_
              refine lv_lconst (v := 1) (pc := 126) hx hb dX2_goOn_126 (by decide) ?_
              refine lv_ladd (pc := 127) hx hb dX2_goOn_127 ?_
              refine lv_topl (fun v16 ev16 => ?_)
              obtain rfl : v16 = lN (ci + 1) := ev16.trans (lN_1 ci)
              refine lv_lstore (lv' := [(7, .long (lN (ci + 1))), (12, .int (nI (pop4 ((gk n kw ci kw).1)))), (0, .ref h0), (1, .int (nI n)), (2, .int (nI kw)), (3, .long (lN (pw (n - 1) (n - kw)))), (5, .long (lN (pw (n - 1) kw))), (9, .int (nI (gk n kw ci kw).1)), (10, .long (lN (gk n kw ci kw).2))]) (pc := 128) hx hb dX2_goOn_128 hl (by decide) rfl (fun ls hl => ?_)
              refine lv_goto (tgt := 22) (pc := 130) hx hb dX2_goOn_130 rfl ?_
              obtain rfl : f15 = lf (goL n kw (la.getD kw 0 * lN (pw (n - 1) (n - kw))) lb (ci + 1)) := ef15.symm.trans (by rw [nI_clamp (by omega)]; exact lf_set (by rw [goL_len, hlb]; omega))
              exact ih1 (ci + 1) (by omega) (by omega) _ _ _ hW (lv_sub hl [2, 3, 4, 5, 6, 0] rfl)
            · have hlo : o < kw := ge_f (by omega) (by omega) c9
              obtain ⟨hg1, hg2⟩ := gk_in (kw := kw) (c := ci) hn hn4 (by omega) o (by omega)
              have hmd : (gk n kw ci o).2 % (n - 1) < n - 1 := Nat.mod_lt _ (by omega)
              refine lv_iload (pc := 50) hx hb dX2_goOn_50 (lv_at hl 6 rfl) ?_
              refine lv_iconst (v := 1) (pc := 52) hx hb dX2_goOn_52 (by decide) ?_
              refine lv_iload (pc := 53) hx hb dX2_goOn_53 (lv_at hl 8 rfl) ?_
              refine lv_lload (pc := 55) hx hb dX2_goOn_55 (lv_at hl 7 rfl) ?_
              refine lv_iconst (v := 1) (pc := 57) hx hb dX2_goOn_57 (by decide) ?_
              refine lv_iload_n (pc := 58) hx hb dX2_goOn_58 rfl (lv_at hl 1 rfl) ?_
              refine lv_iconst (v := 1) (pc := 59) hx hb dX2_goOn_59 (by decide) ?_
              refine lv_isub (pc := 60) hx hb dX2_goOn_60 ?_
              refine lv_topi (fun v17 ev17 => ?_)
              obtain rfl : v17 = nI (n - 1) := ev17.trans (pk_sub (a := n) (b := 1) (by omega))
              refine va_mmax (pc := 61) hx hb (X.2.2.1.trans hl.1.symm) X.2.2.2.1 (X.2.2.2.2.1 _ mm_X2_61) (X.2.2.2.2.1 _ mms_max) (X.2.2.2.2.1 _ m_19) (X.2.2.2.2.1 _ mmc_max) (Nat.le_of_ble_eq_true rfl) (Nat.le_of_ble_eq_true rfl) (Nat.le_of_ble_eq_true rfl) (Nat.le_of_ble_eq_true rfl) dX2_goOn_61 ?_
              refine lv_topi (fun v18 ev18 => ?_)
              obtain rfl : v18 = nI (n - 1) := ev18.trans (mx1 n (by omega) hn)
              refine lv_i2l (v := lN (n - 1)) (pc := 64) hx hb dX2_goOn_64 (nI_l (by omega)) ?_
              refine lv_lrem (pc := 65) hx hb dX2_goOn_65 (nz1 hn (by omega)) ?_
              refine lv_topl (fun v19 ev19 => ?_)
              obtain rfl : v19 = lN ((gk n kw ci o).2 % (n - 1)) := ev19.trans (pk_lRem (by omega) (by omega) (by omega))
              refine lv_l2i (v := nI ((gk n kw ci o).2 % (n - 1))) (pc := 66) hx hb dX2_goOn_66 (lN_i _) ?_
              refine c_Si (pc := 67) (As := [.int (nI o), .int (nI ((gk n kw ci o).2 % (n - 1)))]) (rest := [.int 1, .int (nI (gk n kw ci o).1)]) (wr := [(h0, .inr (2, [.ref c0, .ref c1])), (c0, .inl (g.2.1 2, 5, .inr (.inl (lf la)))), (c1, .inl (g.2.1 2, 5, .inr (.inl (lf (goL n kw (la.getD kw 0 * lN (pw (n - 1) (n - kw))) lb ci)))))]) X hW (C_X2_other l g (nI o) (nI ((gk n kw ci o).2 % (n - 1)))) vX2_38 [] [0, 1, 2] rfl rfl rfl rfl rfl rfl hl.1 rfl (Nat.le_of_ble_eq_true rfl) ⟨Nat.le_of_ble_eq_true rfl, Nat.le_of_ble_eq_true rfl⟩ ⟨Nat.le_of_ble_eq_true rfl, Nat.le_of_ble_eq_true rfl⟩ dX2_goOn_67 (fun r20 u9 H locs hq hW => ?_)
              obtain ⟨rfl, rfl⟩ := hq
              have hW : WD g A s _ _ [(h0, .inr (2, [.ref c0, .ref c1])), (c0, .inl (g.2.1 2, 5, .inr (.inl (lf la)))), (c1, .inl (g.2.1 2, 5, .inr (.inl (lf (goL n kw (la.getD kw 0 * lN (pw (n - 1) (n - kw))) lb ci)))))] := hW
              refine lv_ishl (pc := 70) hx hb dX2_goOn_70 ?_
              refine lv_topi (fun v21 ev21 => ?_)
              obtain rfl : v21 = nI (2 ^ othN o ((gk n kw ci o).2 % (n - 1))) := ev21.trans (by rw [oth_n (by omega) (by omega)]; exact shl_n _ (by have := oth_4 hn hn4 (o := o) (by omega) hmd; omega))
              refine lv_ior (pc := 71) hx hb dX2_goOn_71 ?_
              refine lv_topi (fun v22 ev22 => ?_)
              obtain rfl : v22 = nI (gk n kw ci (o + 1)).1 := ev22.trans (fa_or _ _)
              refine lv_istore (lv' := [(9, .int (nI (gk n kw ci (o + 1)).1)), (0, .ref h0), (1, .int (nI n)), (2, .int (nI kw)), (3, .long (lN (pw (n - 1) (n - kw)))), (5, .long (lN (pw (n - 1) kw))), (7, .long (lN ci)), (10, .long (lN (gk n kw ci o).2)), (12, .int (nI o))]) (pc := 72) hx hb dX2_goOn_72 hl (by decide) rfl (fun ls hl => ?_)
              refine lv_lload (pc := 74) hx hb dX2_goOn_74 (lv_at hl 7 rfl) ?_
              refine lv_iconst (v := 1) (pc := 76) hx hb dX2_goOn_76 (by decide) ?_
              refine lv_iload_n (pc := 77) hx hb dX2_goOn_77 rfl (lv_at hl 2 rfl) ?_
              refine lv_iconst (v := 1) (pc := 78) hx hb dX2_goOn_78 (by decide) ?_
              refine lv_isub (pc := 79) hx hb dX2_goOn_79 ?_
              refine lv_topi (fun v23 ev23 => ?_)
              obtain rfl : v23 = nI (n - 1) := ev23.trans (pk_sub (a := n) (b := 1) (by omega))
              refine va_mmax (pc := 80) hx hb (X.2.2.1.trans hl.1.symm) X.2.2.2.1 (X.2.2.2.2.1 _ mm_X2_80) (X.2.2.2.2.1 _ mms_max) (X.2.2.2.2.1 _ m_19) (X.2.2.2.2.1 _ mmc_max) (Nat.le_of_ble_eq_true rfl) (Nat.le_of_ble_eq_true rfl) (Nat.le_of_ble_eq_true rfl) (Nat.le_of_ble_eq_true rfl) dX2_goOn_80 ?_
              refine lv_topi (fun v24 ev24 => ?_)
              obtain rfl : v24 = nI (n - 1) := ev24.trans (mx1 n (by omega) hn)
              refine lv_i2l (v := lN (n - 1)) (pc := 83) hx hb dX2_goOn_83 (nI_l (by omega)) ?_
              refine lv_ldiv (pc := 84) hx hb dX2_goOn_84 (nz1 hn (by omega)) ?_
              refine lv_topl (fun v25 ev25 => ?_)
              obtain rfl : v25 = lN (gk n kw ci (o + 1)).2 := ev25.trans (pk_lDiv (by omega) (by omega) (by omega))
              refine lv_lstore (lv' := [(10, .long (lN (gk n kw ci (o + 1)).2)), (9, .int (nI (gk n kw ci (o + 1)).1)), (0, .ref h0), (1, .int (nI n)), (2, .int (nI kw)), (3, .long (lN (pw (n - 1) (n - kw)))), (5, .long (lN (pw (n - 1) kw))), (7, .long (lN ci)), (12, .int (nI o))]) (pc := 85) hx hb dX2_goOn_85 hl (by decide) rfl (fun ls hl => ?_)
              refine lv_iinc (v := nI (o + 1)) (lv' := [(12, .int (nI (o + 1))), (10, .long (lN (gk n kw ci (o + 1)).2)), (9, .int (nI (gk n kw ci (o + 1)).1)), (0, .ref h0), (1, .int (nI n)), (2, .int (nI kw)), (3, .long (lN (pw (n - 1) (n - kw)))), (5, .long (lN (pw (n - 1) kw))), (7, .long (lN ci))]) (pc := 87) hx hb dX2_goOn_87 hl (k := 8) rfl (nI_1 o) (by decide) rfl (fun ls hl => ?_)
              refine lv_goto (tgt := 44) (pc := 90) hx hb dX2_goOn_90 rfl ?_
              exact ih2 (o + 1) (by omega) (by omega) _ _ _ hW (lv_sub hl [3, 4, 5, 6, 7, 8, 2, 1, 0] rfl)
        exact loop2 (kw + 1) 0 (by omega) (by omega) _ _ _ hW (lv_sub hl [3, 4, 5, 6, 7, 8, 2, 1, 0] rfl)
  exact loop1 (pw (n - 1) kw + 1) 0 (by omega) (by omega) _ _ _ hW (lv_sub hl [3, 4, 5, 2, 1, 0] rfl)

set_option maxHeartbeats 4000000 in
set_option maxRecDepth 100000 in
theorem C_X2_countWays (l : Launch) (g : GG) (h0 c0 c1 n h k : Nat) (hn : 2 ≤ n) (hn4 : n ≤ 4) (hh : h ≤ 8) (hk : k ≤ 4) : MetL l g yX2_countWays cX2_countWays 6 (some .long) 2 0 0 [.ref h0, .int (nI n), .int (nI h), .int (nI k)] [(h0, .inr (2, [.ref c0, .ref c1])), (c0, .inl (g.2.1 2, 5, .inr (.inl (fun _ => 0)))), (c1, .inl (g.2.1 2, 5, .inr (.inl (fun _ => 0))))] (fun r u => r = (stC n h).getD k 0 ∧ u = []) := by
  refine MetL.of (own := RX2) rfl (by decide) (Nat.le_of_ble_eq_true rfl) ?_
  intro p e s m below meth c A ls args Q hQ X hr hin hW hl
  have hx := X.1
  have hb := X.2.1
  have hl : lv_has ls 6 [(0, .ref h0), (1, .int (nI n)), (2, .int (nI h)), (3, .int (nI k))] := hl
  refine lv_aload_n (pc := 0) hx hb dX2_countWays_0 rfl (lv_at hl 0 rfl) ?_
  refine r_get X hW 0 ciX2 0 rfl (by decide) m_259 rfl rfl dX2_countWays_1 ?_
  refine lv_lconst (v := 0) (pc := 4) hx hb dX2_countWays_4 (by decide) ?_
  refine c_Sv (pc := 5) (As := [.ref c0, .long 0]) (rest := []) (wr := [(h0, .inr (2, [.ref c0, .ref c1])), (c1, .inl (g.2.1 2, 5, .inr (.inl (fun _ => 0))))]) X hW (C_J7_fill_d0a16 l g c0 (fun _ => 0)) vX2_18 [1] [0, 2] rfl rfl rfl rfl rfl rfl hl.1 rfl (Nat.le_of_ble_eq_true rfl) ⟨Nat.le_of_ble_eq_true rfl, Nat.le_of_ble_eq_true rfl⟩ ⟨Nat.le_of_ble_eq_true rfl, Nat.le_of_ble_eq_true rfl⟩ dX2_countWays_5 (fun u9 H locs hq hW => ?_)
  obtain ⟨f1, rfl, hf9⟩ := hq
  obtain rfl : f1 = lf z5 := z5_of (fun _ _ => rfl) hf9
  have hW : WD g A s _ _ [(h0, .inr (2, [.ref c0, .ref c1])), (c1, .inl (g.2.1 2, 5, .inr (.inl (fun _ => 0)))), (c0, .inl (g.2.1 2, 5, .inr (.inl (lf z5))))] := hW
  refine lv_aload_n (pc := 8) hx hb dX2_countWays_8 rfl (lv_at hl 0 rfl) ?_
  refine r_get X hW 0 ciX2 0 rfl (by decide) m_259 rfl rfl dX2_countWays_9 ?_
  refine lv_iconst (v := 1) (pc := 12) hx hb dX2_countWays_12 (by decide) ?_
  refine lv_lconst (v := 1) (pc := 13) hx hb dX2_countWays_13 (by decide) ?_
  obtain ⟨f2, ef2⟩ : ∃ fz : Nat → Int64, vp_updL (lf z5) (1 : Int32).toNatClampNeg 1 = fz := ⟨_, rfl⟩
  refine r_last (ws' := [(h0, .inr (2, [.ref c0, .ref c1])), (c1, .inl (g.2.1 2, 5, .inr (.inl (fun _ => 0)))), (c0, .inl (g.2.1 2, 5, .inr (.inl f2)))]) X hW 2 rfl (by unfold vp_in; decide) ef2 rfl dX2_countWays_14 (fun H locs hW => ?_)
  obtain rfl := lf01 ef2
  rw [show (fun _ => 0 : Nat → Int64) = lf z5 from z5_of (f := fun _ => 0) (fun _ _ => rfl) (fun j => by split <;> rfl)] at hW
  have hW : WD g A s _ _ [(h0, .inr (2, [.ref c0, .ref c1])), (c0, .inl (g.2.1 2, 5, .inr (.inl (lf (stC n 0))))), (c1, .inl (g.2.1 2, 5, .inr (.inl (lf z5))))] := hW.pick [0, 2, 1] rfl rfl
  refine lv_iconst (v := 1) (pc := 15) hx hb dX2_countWays_15 (by decide) ?_
  refine lv_istore (lv' := [(4, .int 1), (0, .ref h0), (1, .int (nI n)), (2, .int (nI h)), (3, .int (nI k))]) (pc := 16) hx hb dX2_countWays_16 hl (by decide) rfl (fun ls hl => ?_)
  have loop1 : ∀ (fu : Nat) (t : Nat) (a : Nat) (b : Nat) (lb : List Int64), (h < fu + t) → (t ≤ h) → (lb.length = 5) → ∀ (H : Heap) (locs : List Loc) (ls : Array Slot), WD g A s H locs [(h0, .inr (2, [.ref a, .ref b])), (a, .inl (g.2.1 2, 5, .inr (.inl (lf (stC n t))))), (b, .inl (g.2.1 2, 5, .inr (.inl (lf (lb)))))] → lv_has ls 6 [(0, .ref h0), (1, .int (nI n)), (2, .int (nI h)), (3, .int (nI k)), (4, .int (nI (t + 1)))] → W p l e (RM 2 0 0) s m args below meth c H locs 0 0 Q (F0 m 18 ls []) := by
    intro fu
    induction fu with
    | zero =>
      intro t a b lb hm ht hlb
      exact absurd hm (by omega)
    | succ fu ih1 =>
      intro t a b lb hm ht hlb H locs ls hW hl
      refine lv_iload (pc := 18) hx hb dX2_countWays_18 (lv_at hl 4 rfl) ?_
      refine lv_iload_n (pc := 20) hx hb dX2_countWays_20 rfl (lv_at hl 2 rfl) ?_
      refine lv_icmp_gt (tgt := 92) (pc := 21) hx hb dX2_countWays_21 rfl (fun c3 => ?_) (fun c3 => ?_)
      · have hth : t = h := by have := lt_t (i := h) (k := t + 1) (by omega) (by omega) c3; omega
        rw [hth] at hW
        refine lv_aload_n (pc := 92) hx hb dX2_countWays_92 rfl (lv_at hl 0 rfl) ?_
        refine r_get X hW 0 ciX2 0 rfl (by decide) m_259 rfl rfl dX2_countWays_93 ?_
        refine lv_iload_n (pc := 96) hx hb dX2_countWays_96 rfl (lv_at hl 3 rfl) ?_
        refine r_lald X hW 1 rfl (vp_in_nI (by omega) (by decide)) dX2_countWays_97 ?_
        refine lv_topl (fun v4 ev4 => ?_)
        obtain rfl : v4 = (stC n h).getD k 0 := ev4.trans (by rw [nI_clamp (by omega)])
        exact e_l X hQ hr hW (u := []) [] rfl rfl (⟨rfl, rfl⟩) ⟨Nat.le_of_ble_eq_true rfl, Nat.le_of_ble_eq_true rfl⟩ dX2_countWays_98
      · have hth : t + 1 ≤ h := by have := lt_f (i := h) (k := t + 1) (by omega) (by omega) c3; omega
        refine lv_aload_n (pc := 24) hx hb dX2_countWays_24 rfl (lv_at hl 0 rfl) ?_
        refine r_get X hW 0 ciX2 1 rfl (by decide) m_260 rfl rfl dX2_countWays_25 ?_
        refine lv_lconst (v := 0) (pc := 28) hx hb dX2_countWays_28 (by decide) ?_
        refine c_Sv (pc := 29) (As := [.ref b, .long 0]) (rest := []) (wr := [(h0, .inr (2, [.ref a, .ref b])), (a, .inl (g.2.1 2, 5, .inr (.inl (lf (stC n t)))))]) X hW (C_J7_fill_d0a16 l g b (lf (lb))) vX2_18 [2] [0, 1] rfl rfl rfl rfl rfl rfl hl.1 rfl (Nat.le_of_ble_eq_true rfl) ⟨Nat.le_of_ble_eq_true rfl, Nat.le_of_ble_eq_true rfl⟩ ⟨Nat.le_of_ble_eq_true rfl, Nat.le_of_ble_eq_true rfl⟩ dX2_countWays_29 (fun u9 H locs hq hW => ?_)
        obtain ⟨f5, rfl, hf9⟩ := hq
        obtain rfl : f5 = lf z5 := z5_of (lf_out hlb) hf9
        have hW : WD g A s _ _ [(h0, .inr (2, [.ref a, .ref b])), (a, .inl (g.2.1 2, 5, .inr (.inl (lf (stC n t))))), (b, .inl (g.2.1 2, 5, .inr (.inl (lf z5))))] := hW
        refine lv_iconst (v := 1) (pc := 32) hx hb dX2_countWays_32 (by decide) ?_
        refine lv_istore (lv' := [(5, .int 1), (0, .ref h0), (1, .int (nI n)), (2, .int (nI h)), (3, .int (nI k)), (4, .int (nI (t + 1)))]) (pc := 33) hx hb dX2_countWays_33 hl (by decide) rfl (fun ls hl => ?_)
        have loop2 : ∀ (fv : Nat) (q : Nat), (n < fv + q) → (q ≤ n) → ∀ (H : Heap) (locs : List Loc) (ls : Array Slot), WD g A s H locs [(h0, .inr (2, [.ref a, .ref b])), (a, .inl (g.2.1 2, 5, .inr (.inl (lf (stC n t))))), (b, .inl (g.2.1 2, 5, .inr (.inl (lf (hcL n (stC n t) q)))))] → lv_has ls 6 [(0, .ref h0), (1, .int (nI n)), (2, .int (nI h)), (3, .int (nI k)), (4, .int (nI (t + 1))), (5, .int (nI (q + 1)))] → W p l e (RM 2 0 0) s m args below meth c H locs 0 0 Q (F0 m 35 ls []) := by
          intro fv
          induction fv with
          | zero =>
            intro q hm2 hqn
            exact absurd hm2 (by omega)
          | succ fv ih2 =>
            intro q hm2 hqn H locs ls hW hl
            refine lv_iload (pc := 35) hx hb dX2_countWays_35 (lv_at hl 5 rfl) ?_
            refine lv_iload_n (pc := 37) hx hb dX2_countWays_37 rfl (lv_at hl 1 rfl) ?_
            refine lv_icmp_gt (tgt := 66) (pc := 38) hx hb dX2_countWays_38 rfl (fun c6 => ?_) (fun c6 => ?_)
            · have hqn : q = n := by have := lt_t (i := n) (k := q + 1) (by omega) (by omega) c6; omega
              rw [hqn] at hW
              refine lv_aload_n (pc := 66) hx hb dX2_countWays_66 rfl (lv_at hl 0 rfl) ?_
              refine r_get X hW 0 ciX2 0 rfl (by decide) m_259 rfl rfl dX2_countWays_67 ?_
              refine lv_astore (lv' := [(5, .ref a), (0, .ref h0), (1, .int (nI n)), (2, .int (nI h)), (3, .int (nI k)), (4, .int (nI (t + 1)))]) (pc := 70) hx hb dX2_countWays_70 hl (by decide) rfl (fun ls hl => ?_)
              refine lv_aload_n (pc := 72) hx hb dX2_countWays_72 rfl (lv_at hl 1 rfl) ?_
              refine lv_aload_n (pc := 73) hx hb dX2_countWays_73 rfl (lv_at hl 1 rfl) ?_
              refine r_get X hW 0 ciX2 1 rfl (by decide) m_260 rfl rfl dX2_countWays_74 ?_
              refine r_put (ws' := [(h0, .inr (2, [.ref b, .ref b])), (a, .inl (g.2.1 2, 5, .inr (.inl (lf (stC n t))))), (b, .inl (g.2.1 2, 5, .inr (.inl (lf (stC n (t + 1))))))]) X hW 0 ciX2 0 rfl (by decide) m_259 rfl rfl rfl rfl (Nat.le_of_ble_eq_true rfl) rfl dX2_countWays_77 (fun H locs hW => ?_)
              refine lv_aload_n (pc := 80) hx hb dX2_countWays_80 rfl (lv_at hl 1 rfl) ?_
              refine lv_aload (pc := 81) hx hb dX2_countWays_81 (lv_at hl 0 rfl) ?_
              refine r_put (ws' := [(h0, .inr (2, [.ref b, .ref a])), (a, .inl (g.2.1 2, 5, .inr (.inl (lf (stC n t))))), (b, .inl (g.2.1 2, 5, .inr (.inl (lf (stC n (t + 1))))))]) X hW 0 ciX2 1 rfl (by decide) m_260 rfl rfl rfl rfl (Nat.le_of_ble_eq_true rfl) rfl dX2_countWays_83 (fun H locs hW => ?_)
              refine lv_iinc (v := nI (t + 1 + 1)) (lv' := [(4, .int (nI (t + 1 + 1))), (5, .ref a), (0, .ref h0), (1, .int (nI n)), (2, .int (nI h)), (3, .int (nI k))]) (pc := 86) hx hb dX2_countWays_86 hl (k := 5) rfl (nI_1 (t + 1)) (by decide) rfl (fun ls hl => ?_)
              refine lv_goto (tgt := 18) (pc := 89) hx hb dX2_countWays_89 rfl ?_
              have hW : WD g A s _ _ [(h0, .inr (2, [.ref b, .ref a])), (b, .inl (g.2.1 2, 5, .inr (.inl (lf (stC n (t + 1)))))), (a, .inl (g.2.1 2, 5, .inr (.inl (lf (stC n t)))))] := hW.pick [0, 2, 1] rfl rfl
              exact ih1 (t + 1) b a (stC n t) (by omega) (by omega) (stC_len _ _) _ _ _ hW (lv_sub hl [2, 3, 4, 5, 0] rfl)
            · have hql : q + 1 ≤ n := by have := lt_f (i := n) (k := q + 1) (by omega) (by omega) c6; omega
              refine lv_aload_n (pc := 41) hx hb dX2_countWays_41 rfl (lv_at hl 0 rfl) ?_
              refine r_get X hW 0 ciX2 0 rfl (by decide) m_259 rfl rfl dX2_countWays_42 ?_
              refine lv_iload (pc := 45) hx hb dX2_countWays_45 (lv_at hl 5 rfl) ?_
              refine r_lald X hW 1 rfl (vp_in_nI (by omega) (by decide)) dX2_countWays_47 ?_
              refine lv_topl (fun v7 ev7 => ?_)
              obtain rfl : v7 = (stC n t).getD (q + 1) 0 := ev7.trans (by rw [nI_clamp (by omega)])
              refine lv_lconst (v := 0) (pc := 48) hx hb dX2_countWays_48 (by decide) ?_
              refine W.lcmp (pc := 49) hx hb dX2_countWays_49 ?_
              refine lv_if_eq (tgt := 60) (pc := 50) hx hb dX2_countWays_50 rfl (fun c8 => ?_) (fun c8 => ?_)
              · have hq0 := (lg_cmp_eq _ _).mp c8
                rw [show lf (hcL n (stC n t) q) = lf (hcL n (stC n t) (q + 1)) from congrArg lf (if_pos hq0).symm] at hW
                refine lv_iinc (v := nI (q + 1 + 1)) (lv' := [(5, .int (nI (q + 1 + 1))), (0, .ref h0), (1, .int (nI n)), (2, .int (nI h)), (3, .int (nI k)), (4, .int (nI (t + 1)))]) (pc := 60) hx hb dX2_countWays_60 hl (k := 5) rfl (nI_1 (q + 1)) (by decide) rfl (fun ls hl => ?_)
                refine lv_goto (tgt := 35) (pc := 63) hx hb dX2_countWays_63 rfl ?_
                exact ih2 (q + 1) (by omega) (by omega) _ _ _ hW (lv_sub hl [1, 2, 3, 4, 5, 0] rfl)
              · have hq0 := fun z => c8 ((lg_cmp_eq _ _).mpr z)
                refine lv_aload_n (pc := 53) hx hb dX2_countWays_53 rfl (lv_at hl 0 rfl) ?_
                refine lv_iload_n (pc := 54) hx hb dX2_countWays_54 rfl (lv_at hl 1 rfl) ?_
                refine lv_iload (pc := 55) hx hb dX2_countWays_55 (lv_at hl 5 rfl) ?_
                refine c_Vv (pc := 57) (As := [.int (nI n), .int (nI (q + 1))]) (rest := []) (wr := []) X hW 0 ciX2 rfl (C_X2_goOn l g h0 a b n (q + 1) (stC n t) (hcL n (stC n t) q) hn hn4 (by omega) (by omega) (hcL_len _ _ _)) vX2_24 [0, 1, 2] [] rfl rfl rfl rfl rfl rfl hl.1 rfl (Nat.le_of_ble_eq_true rfl) ⟨Nat.le_of_ble_eq_true rfl, Nat.le_of_ble_eq_true rfl⟩ ⟨Nat.le_of_ble_eq_true rfl, Nat.le_of_ble_eq_true rfl⟩ dX2_countWays_57 (fun u9 H locs hq hW => ?_)
                obtain rfl := hq
                have hW : WD g A s _ _ [(h0, .inr (2, [.ref a, .ref b])), (a, .inl (g.2.1 2, 5, .inr (.inl (lf (stC n t))))), (b, .inl (g.2.1 2, 5, .inr (.inl (lf (goL n (q + 1) ((stC n t).getD (q + 1) 0 * lN (pw (n - 1) (n - (q + 1)))) (hcL n (stC n t) q) (pw (n - 1) (q + 1)))))))] := hW
                rw [show lf (goL n (q + 1) ((stC n t).getD (q + 1) 0 * lN (pw (n - 1) (n - (q + 1)))) (hcL n (stC n t) q) (pw (n - 1) (q + 1))) = lf (hcL n (stC n t) (q + 1)) from congrArg lf (if_neg hq0).symm] at hW
                refine lv_iinc (v := nI (q + 1 + 1)) (lv' := [(5, .int (nI (q + 1 + 1))), (0, .ref h0), (1, .int (nI n)), (2, .int (nI h)), (3, .int (nI k)), (4, .int (nI (t + 1)))]) (pc := 60) hx hb dX2_countWays_60 hl (k := 5) rfl (nI_1 (q + 1)) (by decide) rfl (fun ls hl => ?_)
                refine lv_goto (tgt := 35) (pc := 63) hx hb dX2_countWays_63 rfl ?_
                exact ih2 (q + 1) (by omega) (by omega) _ _ _ hW (lv_sub hl [1, 2, 3, 4, 5, 0] rfl)
        exact loop2 (n + 1) 0 (by omega) (by omega) _ _ _ hW (lv_sub hl [1, 2, 3, 4, 5, 0] rfl)
  exact loop1 (h + 1) 0 c0 c1 z5 (by omega) (by omega) rfl _ _ _ hW (lv_sub hl [1, 2, 3, 4, 0] rfl)

set_option maxHeartbeats 4000000 in
set_option maxRecDepth 100000 in
theorem C_X11_ways (l : Launch) (g : GG) (h0 a0 a1 a2 a3 a4 a5 a6 a7 a8 a9 a10 j0 j1 : Nat) (p0 p1 p2 : Int32) : MetL l g yX11_ways cX11_ways 4 (some .long) 3 0 0 [.ref h0, .int p0, .int p1, .int p2] [(h0, .inr (11, [.ref a0, .ref a1, .ref a2, .ref a3, .ref a4, .ref a5, .ref a6, .ref a7, .ref a8, .ref a9, .ref a10, .int 0, .int 0, .int 0])), (a9, .inr (2, [.ref j0, .ref j1])), (j0, .inl (g.2.1 2, 5, .inr (.inl (fun _ => 0)))), (j1, .inl (g.2.1 2, 5, .inr (.inl (fun _ => 0))))] (fun r u => r = wv p0 p1 p2 ∧ u = []) := by
  refine MetL.of (own := RX11) rfl (by decide) (Nat.le_of_ble_eq_true rfl) ?_
  intro p e s m below meth c A ls args Q hQ X hr hin hW hl
  have hx := X.1
  have hb := X.2.1
  have hl : lv_has ls 4 [(0, .ref h0), (1, .int p0), (2, .int p1), (3, .int p2)] := hl
  refine lv_iload_n (pc := 0) hx hb dX11_ways_0 rfl (lv_at hl 1 rfl) ?_
  refine lv_iconst (v := 2) (pc := 1) hx hb dX11_ways_1 (by decide) ?_
  refine lv_icmp_lt (tgt := 31) (pc := 2) hx hb dX11_ways_2 rfl (fun c1 => ?_) (fun c1 => ?_)
  · refine lv_ldc2 (pc := 31) hx hb X.2.2.2.1 (X.2.2.2.2.1 _ m_1075) dX11_ways_31 ?_
    exact e_l X hQ hr hW (u := []) [] rfl rfl (⟨(wv_no (fun h9 => by obtain ⟨q1, q2, q3, q4, q5, q6⟩ := h9; first | exact q1 c1 | exact q2 c1 | exact q3 c1 | exact q4 c1 | exact q5 c1 | exact q6 (Int32.not_le.mp c1))).symm, rfl⟩) ⟨Nat.le_of_ble_eq_true rfl, Nat.le_of_ble_eq_true rfl⟩ dX11_ways_34
  · refine lv_iload_n (pc := 5) hx hb dX11_ways_5 rfl (lv_at hl 1 rfl) ?_
    refine lv_iconst (v := 4) (pc := 6) hx hb dX11_ways_6 (by decide) ?_
    refine lv_icmp_gt (tgt := 31) (pc := 7) hx hb dX11_ways_7 rfl (fun c2 => ?_) (fun c2 => ?_)
    · refine lv_ldc2 (pc := 31) hx hb X.2.2.2.1 (X.2.2.2.2.1 _ m_1075) dX11_ways_31 ?_
      exact e_l X hQ hr hW (u := []) [] rfl rfl (⟨(wv_no (fun h9 => by obtain ⟨q1, q2, q3, q4, q5, q6⟩ := h9; first | exact q1 c2 | exact q2 c2 | exact q3 c2 | exact q4 c2 | exact q5 c2 | exact q6 (Int32.not_le.mp c2))).symm, rfl⟩) ⟨Nat.le_of_ble_eq_true rfl, Nat.le_of_ble_eq_true rfl⟩ dX11_ways_34
    · refine lv_iload_n (pc := 10) hx hb dX11_ways_10 rfl (lv_at hl 2 rfl) ?_
      refine lv_iconst (v := 1) (pc := 11) hx hb dX11_ways_11 (by decide) ?_
      refine lv_icmp_lt (tgt := 31) (pc := 12) hx hb dX11_ways_12 rfl (fun c3 => ?_) (fun c3 => ?_)
      · refine lv_ldc2 (pc := 31) hx hb X.2.2.2.1 (X.2.2.2.2.1 _ m_1075) dX11_ways_31 ?_
        exact e_l X hQ hr hW (u := []) [] rfl rfl (⟨(wv_no (fun h9 => by obtain ⟨q1, q2, q3, q4, q5, q6⟩ := h9; first | exact q1 c3 | exact q2 c3 | exact q3 c3 | exact q4 c3 | exact q5 c3 | exact q6 (Int32.not_le.mp c3))).symm, rfl⟩) ⟨Nat.le_of_ble_eq_true rfl, Nat.le_of_ble_eq_true rfl⟩ dX11_ways_34
      · refine lv_iload_n (pc := 15) hx hb dX11_ways_15 rfl (lv_at hl 2 rfl) ?_
        refine lv_bipush (v := 8) (pc := 16) hx hb dX11_ways_16 (by decide) ?_
        refine lv_icmp_gt (tgt := 31) (pc := 18) hx hb dX11_ways_18 rfl (fun c4 => ?_) (fun c4 => ?_)
        · refine lv_ldc2 (pc := 31) hx hb X.2.2.2.1 (X.2.2.2.2.1 _ m_1075) dX11_ways_31 ?_
          exact e_l X hQ hr hW (u := []) [] rfl rfl (⟨(wv_no (fun h9 => by obtain ⟨q1, q2, q3, q4, q5, q6⟩ := h9; first | exact q1 c4 | exact q2 c4 | exact q3 c4 | exact q4 c4 | exact q5 c4 | exact q6 (Int32.not_le.mp c4))).symm, rfl⟩) ⟨Nat.le_of_ble_eq_true rfl, Nat.le_of_ble_eq_true rfl⟩ dX11_ways_34
        · refine lv_iload_n (pc := 21) hx hb dX11_ways_21 rfl (lv_at hl 3 rfl) ?_
          refine lv_iconst (v := 1) (pc := 22) hx hb dX11_ways_22 (by decide) ?_
          refine lv_icmp_lt (tgt := 31) (pc := 23) hx hb dX11_ways_23 rfl (fun c5 => ?_) (fun c5 => ?_)
          · refine lv_ldc2 (pc := 31) hx hb X.2.2.2.1 (X.2.2.2.2.1 _ m_1075) dX11_ways_31 ?_
            exact e_l X hQ hr hW (u := []) [] rfl rfl (⟨(wv_no (fun h9 => by obtain ⟨q1, q2, q3, q4, q5, q6⟩ := h9; first | exact q1 c5 | exact q2 c5 | exact q3 c5 | exact q4 c5 | exact q5 c5 | exact q6 (Int32.not_le.mp c5))).symm, rfl⟩) ⟨Nat.le_of_ble_eq_true rfl, Nat.le_of_ble_eq_true rfl⟩ dX11_ways_34
          · refine lv_iload_n (pc := 26) hx hb dX11_ways_26 rfl (lv_at hl 3 rfl) ?_
            refine lv_iload_n (pc := 27) hx hb dX11_ways_27 rfl (lv_at hl 1 rfl) ?_
            refine lv_icmp_le (tgt := 35) (pc := 28) hx hb dX11_ways_28 rfl (fun c6 => ?_) (fun c6 => ?_)
            · have hok : wOk p0 p1 p2 := ⟨c1, c2, c3, c4, c5, Int32.not_lt.mpr c6⟩
              obtain ⟨n, h, k, hn, hn4, hh1, hh, hk1, hk, rfl, rfl, rfl, hwv⟩ := w_ok hok
              refine lv_aload_n (pc := 35) hx hb dX11_ways_35 rfl (lv_at hl 0 rfl) ?_
              refine r_get X hW 0 ciX11 9 rfl (by decide) m_362 rfl rfl dX11_ways_36 ?_
              refine lv_iload_n (pc := 39) hx hb dX11_ways_39 rfl (lv_at hl 1 rfl) ?_
              refine lv_iload_n (pc := 40) hx hb dX11_ways_40 rfl (lv_at hl 2 rfl) ?_
              refine lv_iload_n (pc := 41) hx hb dX11_ways_41 rfl (lv_at hl 3 rfl) ?_
              refine c_Vl (pc := 42) (As := [.int (nI n), .int (nI h), .int (nI k)]) (rest := []) (wr := [(h0, .inr (11, [.ref a0, .ref a1, .ref a2, .ref a3, .ref a4, .ref a5, .ref a6, .ref a7, .ref a8, .ref a9, .ref a10, .int 0, .int 0, .int 0]))]) X hW 1 ciX2 rfl (C_X2_countWays l g a9 j0 j1 n h k hn hn4 hh (by omega)) vX11_300 [1, 2, 3] [0] rfl rfl rfl rfl rfl rfl hl.1 rfl (Nat.le_of_ble_eq_true rfl) ⟨Nat.le_of_ble_eq_true rfl, Nat.le_of_ble_eq_true rfl⟩ ⟨Nat.le_of_ble_eq_true rfl, Nat.le_of_ble_eq_true rfl⟩ dX11_ways_42 (fun r7 u9 H locs hq hW => ?_)
              obtain ⟨rfl, rfl⟩ := hq
              have hW : WD g A s _ _ [(h0, .inr (11, [.ref a0, .ref a1, .ref a2, .ref a3, .ref a4, .ref a5, .ref a6, .ref a7, .ref a8, .ref a9, .ref a10, .int 0, .int 0, .int 0]))] := hW
              exact e_l X hQ hr hW (u := []) [] rfl rfl (⟨hwv.symm, rfl⟩) ⟨Nat.le_of_ble_eq_true rfl, Nat.le_of_ble_eq_true rfl⟩ dX11_ways_45
            · refine lv_ldc2 (pc := 31) hx hb X.2.2.2.1 (X.2.2.2.2.1 _ m_1075) dX11_ways_31 ?_
              exact e_l X hQ hr hW (u := []) [] rfl rfl (⟨(wv_no (fun h9 => by obtain ⟨q1, q2, q3, q4, q5, q6⟩ := h9; first | exact q1 c6 | exact q2 c6 | exact q3 c6 | exact q4 c6 | exact q5 c6 | exact q6 (Int32.not_le.mp c6))).symm, rfl⟩) ⟨Nat.le_of_ble_eq_true rfl, Nat.le_of_ble_eq_true rfl⟩ dX11_ways_34

set_option maxHeartbeats 4000000 in
set_option maxRecDepth 100000 in
theorem C_choose_0 (l : Launch) (g : GG) (h0 b1 b6 b7 b8 b9 b10 b11 b12 b13 b14 b15 b16 b17 b21 b22 b23 b24 b25 b26 b28 b29 b30 b31 b32 b33 b34 b35 b36 b46 b47 b48 b49 b50 b51 b52 b53 b54 b55 b56 b57 b58 b59 b60 b61 b62 b63 : Nat) (n kw fr ca : Nat) (x : Int64) (la : List Int64) (hn4 : n ≤ 4) (hkw : kw < 16) (hca : ca < 16) (hla : la.length = 16) (hfr : fr + 0 = n) : MetV l g yX12_choose cX12_choose 8 none 0 0 0 [.ref h0, .int (nI n), .int (nI kw), .int (nI fr), .int (nI ca), .long x] [(h0, .inr (12, [.int 0, .ref b1, .int 0, .int 0, .int 0, .int 0, .ref b6, .ref b7, .ref b8, .ref b9, .ref b10, .ref b11, .ref b12, .ref b13, .ref b14, .ref b15, .ref b16, .ref b17, .int 0, .int (-1), .int (-1), .ref b21, .ref b22, .ref b23, .ref b24, .ref b25, .ref b26, .int 0, .ref b28, .ref b29, .ref b30, .ref b31, .ref b32, .ref b33, .ref b34, .ref b35, .ref b36, .int 0, .int 0, .int 0, .int 0, .int 0, .int 0, .int 0, .int 0, .int 0, .ref b46, .ref b47, .ref b48, .ref b49, .ref b50, .ref b51, .ref b52, .ref b53, .ref b54, .ref b55, .ref b56, .ref b57, .ref b58, .ref b59, .ref b60, .ref b61, .ref b62, .ref b63])), (b60, .inl (g.2.1 2, 16, .inr (.inl (lf (la)))))] (fun u => u = [(h0, .inr (12, [.int 0, .ref b1, .int 0, .int 0, .int 0, .int 0, .ref b6, .ref b7, .ref b8, .ref b9, .ref b10, .ref b11, .ref b12, .ref b13, .ref b14, .ref b15, .ref b16, .ref b17, .int 0, .int (-1), .int (-1), .ref b21, .ref b22, .ref b23, .ref b24, .ref b25, .ref b26, .int 0, .ref b28, .ref b29, .ref b30, .ref b31, .ref b32, .ref b33, .ref b34, .ref b35, .ref b36, .int 0, .int 0, .int 0, .int 0, .int 0, .int 0, .int 0, .int 0, .int 0, .ref b46, .ref b47, .ref b48, .ref b49, .ref b50, .ref b51, .ref b52, .ref b53, .ref b54, .ref b55, .ref b56, .ref b57, .ref b58, .ref b59, .ref b60, .ref b61, .ref b62, .ref b63])), (b60, .inl (g.2.1 2, 16, .inr (.inl (lf (chL n kw x 0 fr ca la)))))]) := by
  refine MetV.of (own := RX12) rfl (by decide) (Nat.le_of_ble_eq_true rfl) ?_
  intro p e s m below meth c A ls args Q hQ X hr hin hW hl
  have hx := X.1
  have hb := X.2.1
  have hl : lv_has ls 8 [(0, .ref h0), (1, .int (nI n)), (2, .int (nI kw)), (3, .int (nI fr)), (4, .int (nI ca)), (5, .long x)] := hl
  have hor : kw ||| ca < 16 := Nat.or_lt_two_pow (n := 4) hkw hca
  refine lv_iload_n (pc := 0) hx hb dX12_choose_0 rfl (lv_at hl 3 rfl) ?_
  refine lv_iload_n (pc := 1) hx hb dX12_choose_1 rfl (lv_at hl 1 rfl) ?_
  refine lv_icmp_ne (tgt := 20) (pc := 2) hx hb dX12_choose_2 rfl (fun c1 => absurd (congrArg nI (show fr = n by omega)) c1) (fun c1 => ?_)
  refine lv_aload_n (pc := 5) hx hb dX12_choose_5 rfl (lv_at hl 0 rfl) ?_
  refine r_get X hW 0 ciX12 60 rfl (by decide) m_1287 rfl rfl dX12_choose_6 ?_
  refine lv_iload_n (pc := 9) hx hb dX12_choose_9 rfl (lv_at hl 2 rfl) ?_
  refine lv_iload (pc := 10) hx hb dX12_choose_10 (lv_at hl 4 rfl) ?_
  refine lv_ior (pc := 12) hx hb dX12_choose_12 ?_
  refine lv_topi (fun v2 ev2 => ?_)
  obtain rfl : v2 = nI (kw ||| ca) := ev2.trans (fa_or _ _)
  refine lv_dup2_11 (pc := 13) hx hb dX12_choose_13 rfl rfl ?_
  refine r_lald X hW 1 rfl (vp_in_nI hor (by decide)) dX12_choose_14 ?_
  refine lv_topl (fun v3 ev3 => ?_)
  obtain rfl : v3 = la.getD (kw ||| ca) 0 := ev3.trans (by rw [nI_clamp (by omega)])
  refine lv_lload (pc := 15) hx hb dX12_choose_15 (lv_at hl 5 rfl) ?_
  refine lv_ladd (pc := 17) hx hb dX12_choose_17 ?_
  obtain ⟨f4, ef4⟩ : ∃ fz : Nat → Int64, vp_updL (lf (la)) (nI (kw ||| ca)).toNatClampNeg ((la.getD (kw ||| ca) 0) + x) = fz := ⟨_, rfl⟩
  refine r_last (ws' := [(h0, .inr (12, [.int 0, .ref b1, .int 0, .int 0, .int 0, .int 0, .ref b6, .ref b7, .ref b8, .ref b9, .ref b10, .ref b11, .ref b12, .ref b13, .ref b14, .ref b15, .ref b16, .ref b17, .int 0, .int (-1), .int (-1), .ref b21, .ref b22, .ref b23, .ref b24, .ref b25, .ref b26, .int 0, .ref b28, .ref b29, .ref b30, .ref b31, .ref b32, .ref b33, .ref b34, .ref b35, .ref b36, .int 0, .int 0, .int 0, .int 0, .int 0, .int 0, .int 0, .int 0, .int 0, .ref b46, .ref b47, .ref b48, .ref b49, .ref b50, .ref b51, .ref b52, .ref b53, .ref b54, .ref b55, .ref b56, .ref b57, .ref b58, .ref b59, .ref b60, .ref b61, .ref b62, .ref b63])), (b60, .inl (g.2.1 2, 16, .inr (.inl f4)))]) X hW 1 rfl (vp_in_nI hor (by decide)) ef4 rfl dX12_choose_18 (fun H locs hW => ?_)
  obtain rfl : f4 = lf (chL n kw x 0 fr ca la) := ef4.symm.trans (by rw [nI_clamp (by omega)]; exact lf_set (by omega))
  exact e_v X hQ hr hW (u := [(h0, .inr (12, [.int 0, .ref b1, .int 0, .int 0, .int 0, .int 0, .ref b6, .ref b7, .ref b8, .ref b9, .ref b10, .ref b11, .ref b12, .ref b13, .ref b14, .ref b15, .ref b16, .ref b17, .int 0, .int (-1), .int (-1), .ref b21, .ref b22, .ref b23, .ref b24, .ref b25, .ref b26, .int 0, .ref b28, .ref b29, .ref b30, .ref b31, .ref b32, .ref b33, .ref b34, .ref b35, .ref b36, .int 0, .int 0, .int 0, .int 0, .int 0, .int 0, .int 0, .int 0, .int 0, .ref b46, .ref b47, .ref b48, .ref b49, .ref b50, .ref b51, .ref b52, .ref b53, .ref b54, .ref b55, .ref b56, .ref b57, .ref b58, .ref b59, .ref b60, .ref b61, .ref b62, .ref b63])), (b60, .inl (g.2.1 2, 16, .inr (.inl (lf (chL n kw x 0 fr ca la)))))]) [0, 1] rfl rfl (rfl) ⟨Nat.le_of_ble_eq_true rfl, Nat.le_of_ble_eq_true rfl⟩ dX12_choose_19

set_option maxHeartbeats 4000000 in
set_option maxRecDepth 100000 in
theorem C_choose_1 (l : Launch) (g : GG) (h0 b1 b6 b7 b8 b9 b10 b11 b12 b13 b14 b15 b16 b17 b21 b22 b23 b24 b25 b26 b28 b29 b30 b31 b32 b33 b34 b35 b36 b46 b47 b48 b49 b50 b51 b52 b53 b54 b55 b56 b57 b58 b59 b60 b61 b62 b63 : Nat) (n kw fr ca : Nat) (x : Int64) (la : List Int64) (hn4 : n ≤ 4) (hkw : kw < 16) (hca : ca < 16) (hla : la.length = 16) (hfr : fr + 1 = n) : MetV l g yX12_choose cX12_choose 8 none 1 0 0 [.ref h0, .int (nI n), .int (nI kw), .int (nI fr), .int (nI ca), .long x] [(h0, .inr (12, [.int 0, .ref b1, .int 0, .int 0, .int 0, .int 0, .ref b6, .ref b7, .ref b8, .ref b9, .ref b10, .ref b11, .ref b12, .ref b13, .ref b14, .ref b15, .ref b16, .ref b17, .int 0, .int (-1), .int (-1), .ref b21, .ref b22, .ref b23, .ref b24, .ref b25, .ref b26, .int 0, .ref b28, .ref b29, .ref b30, .ref b31, .ref b32, .ref b33, .ref b34, .ref b35, .ref b36, .int 0, .int 0, .int 0, .int 0, .int 0, .int 0, .int 0, .int 0, .int 0, .ref b46, .ref b47, .ref b48, .ref b49, .ref b50, .ref b51, .ref b52, .ref b53, .ref b54, .ref b55, .ref b56, .ref b57, .ref b58, .ref b59, .ref b60, .ref b61, .ref b62, .ref b63])), (b60, .inl (g.2.1 2, 16, .inr (.inl (lf (la)))))] (fun u => u = [(h0, .inr (12, [.int 0, .ref b1, .int 0, .int 0, .int 0, .int 0, .ref b6, .ref b7, .ref b8, .ref b9, .ref b10, .ref b11, .ref b12, .ref b13, .ref b14, .ref b15, .ref b16, .ref b17, .int 0, .int (-1), .int (-1), .ref b21, .ref b22, .ref b23, .ref b24, .ref b25, .ref b26, .int 0, .ref b28, .ref b29, .ref b30, .ref b31, .ref b32, .ref b33, .ref b34, .ref b35, .ref b36, .int 0, .int 0, .int 0, .int 0, .int 0, .int 0, .int 0, .int 0, .int 0, .ref b46, .ref b47, .ref b48, .ref b49, .ref b50, .ref b51, .ref b52, .ref b53, .ref b54, .ref b55, .ref b56, .ref b57, .ref b58, .ref b59, .ref b60, .ref b61, .ref b62, .ref b63])), (b60, .inl (g.2.1 2, 16, .inr (.inl (lf (chL n kw x 1 fr ca la)))))]) := by
  refine MetV.of (own := RX12) rfl (by decide) (Nat.le_of_ble_eq_true rfl) ?_
  intro p e s m below meth c A ls args Q hQ X hr hin hW hl
  have hx := X.1
  have hb := X.2.1
  have hl : lv_has ls 8 [(0, .ref h0), (1, .int (nI n)), (2, .int (nI kw)), (3, .int (nI fr)), (4, .int (nI ca)), (5, .long x)] := hl
  have hb2 : kw / 2 ^ fr % 2 < 2 := Nat.mod_lt _ (by decide)
  refine lv_iload_n (pc := 0) hx hb dX12_choose_0 rfl (lv_at hl 3 rfl) ?_
  refine lv_iload_n (pc := 1) hx hb dX12_choose_1 rfl (lv_at hl 1 rfl) ?_
  refine lv_icmp_ne (tgt := 20) (pc := 2) hx hb dX12_choose_2 rfl (fun c1 => ?_) (fun c1 => absurd c1 (fun q => absurd ((nI_eq (by omega) (by omega)).mp q) (by omega)))
  refine lv_iconst (v := 0) (pc := 20) hx hb dX12_choose_20 (by decide) ?_
  refine lv_istore (lv' := [(7, .int 0), (0, .ref h0), (1, .int (nI n)), (2, .int (nI kw)), (3, .int (nI fr)), (4, .int (nI ca)), (5, .long x)]) (pc := 21) hx hb dX12_choose_21 hl (by decide) rfl (fun ls hl => ?_)
  have loop1 : ∀ (fu : Nat) (o : Nat), (n < fu + o) → (o ≤ n) → ∀ (H : Heap) (locs : List Loc) (ls : Array Slot), WD g A s H locs [(h0, .inr (12, [.int 0, .ref b1, .int 0, .int 0, .int 0, .int 0, .ref b6, .ref b7, .ref b8, .ref b9, .ref b10, .ref b11, .ref b12, .ref b13, .ref b14, .ref b15, .ref b16, .ref b17, .int 0, .int (-1), .int (-1), .ref b21, .ref b22, .ref b23, .ref b24, .ref b25, .ref b26, .int 0, .ref b28, .ref b29, .ref b30, .ref b31, .ref b32, .ref b33, .ref b34, .ref b35, .ref b36, .int 0, .int 0, .int 0, .int 0, .int 0, .int 0, .int 0, .int 0, .int 0, .ref b46, .ref b47, .ref b48, .ref b49, .ref b50, .ref b51, .ref b52, .ref b53, .ref b54, .ref b55, .ref b56, .ref b57, .ref b58, .ref b59, .ref b60, .ref b61, .ref b62, .ref b63])), (b60, .inl (g.2.1 2, 16, .inr (.inl (lf (chO (fun o l => chL n kw x 0 (fr + 1) (if kw / 2 ^ fr % 2 = 1 then ca ||| 2 ^ o else ca) l) fr o la)))))] → lv_has ls 8 [(0, .ref h0), (1, .int (nI n)), (2, .int (nI kw)), (3, .int (nI fr)), (4, .int (nI ca)), (5, .long x), (7, .int (nI o))] → W p l e (RM 1 0 0) s m args below meth c H locs 0 0 Q (F0 m 23 ls []) := by
    intro fu
    induction fu with
    | zero =>
      intro o hm ho
      exact absurd hm (by omega)
    | succ fu ih1 =>
      intro o hm ho H locs ls hW hl
      refine lv_iload (pc := 23) hx hb dX12_choose_23 (lv_at hl 6 rfl) ?_
      refine lv_iload_n (pc := 25) hx hb dX12_choose_25 rfl (lv_at hl 1 rfl) ?_
      refine lv_icmp_ge (tgt := 73) (pc := 26) hx hb dX12_choose_26 rfl (fun c2 => ?_) (fun c2 => ?_)
      · have hon : o = n := by have := ge_t (k := n) (by omega) (by omega) c2; omega
        rw [hon] at hW
        exact e_v X hQ hr hW (u := [(h0, .inr (12, [.int 0, .ref b1, .int 0, .int 0, .int 0, .int 0, .ref b6, .ref b7, .ref b8, .ref b9, .ref b10, .ref b11, .ref b12, .ref b13, .ref b14, .ref b15, .ref b16, .ref b17, .int 0, .int (-1), .int (-1), .ref b21, .ref b22, .ref b23, .ref b24, .ref b25, .ref b26, .int 0, .ref b28, .ref b29, .ref b30, .ref b31, .ref b32, .ref b33, .ref b34, .ref b35, .ref b36, .int 0, .int 0, .int 0, .int 0, .int 0, .int 0, .int 0, .int 0, .int 0, .ref b46, .ref b47, .ref b48, .ref b49, .ref b50, .ref b51, .ref b52, .ref b53, .ref b54, .ref b55, .ref b56, .ref b57, .ref b58, .ref b59, .ref b60, .ref b61, .ref b62, .ref b63])), (b60, .inl (g.2.1 2, 16, .inr (.inl (lf (chL n kw x 1 fr ca la)))))]) [0, 1] rfl rfl (rfl) ⟨Nat.le_of_ble_eq_true rfl, Nat.le_of_ble_eq_true rfl⟩ dX12_choose_73
      · have hlo : o < n := ge_f (by omega) (by omega) c2
        refine lv_iload (pc := 29) hx hb dX12_choose_29 (lv_at hl 6 rfl) ?_
        refine lv_iload_n (pc := 31) hx hb dX12_choose_31 rfl (lv_at hl 3 rfl) ?_
        refine lv_icmp_eq (tgt := 67) (pc := 32) hx hb dX12_choose_32 rfl (fun c3 => ?_) (fun c3 => ?_)
        · have hof : o = fr := (nI_eq (by omega) (by omega)).mp c3
          have hst : chO (fun o l => chL n kw x 0 (fr + 1) (if kw / 2 ^ fr % 2 = 1 then ca ||| 2 ^ o else ca) l) fr (o + 1) la = chO (fun o l => chL n kw x 0 (fr + 1) (if kw / 2 ^ fr % 2 = 1 then ca ||| 2 ^ o else ca) l) fr o la := if_pos hof
          rw [← hst] at hW
          refine lv_iinc (v := nI (o + 1)) (lv' := [(7, .int (nI (o + 1))), (0, .ref h0), (1, .int (nI n)), (2, .int (nI kw)), (3, .int (nI fr)), (4, .int (nI ca)), (5, .long x)]) (pc := 67) hx hb dX12_choose_67 hl (k := 6) rfl (nI_1 o) (by decide) rfl (fun ls hl => ?_)
          refine lv_goto (tgt := 23) (pc := 70) hx hb dX12_choose_70 rfl ?_
          exact ih1 (o + 1) (by omega) (by omega) _ _ _ hW (lv_sub hl [1, 2, 3, 4, 5, 6, 0] rfl)
        · have hof : ¬ o = fr := fun q => c3 (congrArg nI q)
          refine lv_aload_n (pc := 35) hx hb dX12_choose_35 rfl (lv_at hl 0 rfl) ?_
          refine lv_iload_n (pc := 36) hx hb dX12_choose_36 rfl (lv_at hl 1 rfl) ?_
          refine lv_iload_n (pc := 37) hx hb dX12_choose_37 rfl (lv_at hl 2 rfl) ?_
          refine lv_iload_n (pc := 38) hx hb dX12_choose_38 rfl (lv_at hl 3 rfl) ?_
          refine lv_iconst (v := 1) (pc := 39) hx hb dX12_choose_39 (by decide) ?_
          refine lv_iadd (pc := 40) hx hb dX12_choose_40 ?_
          refine lv_topi (fun v4 ev4 => ?_)
          obtain rfl : v4 = nI (fr + 1) := ev4.trans (nI_1 fr)
          refine lv_iload_n (pc := 41) hx hb dX12_choose_41 rfl (lv_at hl 2 rfl) ?_
          refine lv_iload_n (pc := 42) hx hb dX12_choose_42 rfl (lv_at hl 3 rfl) ?_
          refine lv_ishr (pc := 43) hx hb dX12_choose_43 ?_
          refine lv_topi (fun v5 ev5 => ?_)
          obtain rfl : v5 = nI (kw / 2 ^ fr) := ev5.trans (shr_n kw hkw fr (by omega))
          refine lv_iconst (v := 1) (pc := 44) hx hb dX12_choose_44 (by decide) ?_
          refine lv_iand (pc := 45) hx hb dX12_choose_45 ?_
          refine lv_topi (fun v6 ev6 => ?_)
          obtain rfl : v6 = nI (kw / 2 ^ fr % 2) := ev6.trans (and_1 _ (Nat.lt_of_le_of_lt (Nat.div_le_self _ _) hkw))
          refine lv_iconst (v := 1) (pc := 46) hx hb dX12_choose_46 (by decide) ?_
          refine lv_icmp_ne (tgt := 60) (pc := 47) hx hb dX12_choose_47 rfl (fun c7 => ?_) (fun c7 => ?_)
          · have hbit : ¬ kw / 2 ^ fr % 2 = 1 := fun q => c7 (congrArg nI q)
            refine lv_iload (pc := 60) hx hb dX12_choose_60 (lv_at hl 4 rfl) ?_
            refine lv_lload (pc := 62) hx hb dX12_choose_62 (lv_at hl 5 rfl) ?_
            refine c_Vv (pc := 64) (As := [.int (nI n), .int (nI kw), .int (nI (fr + 1)), .int (nI ca), .long x]) (rest := []) (wr := []) X hW 0 ciX12 rfl (C_choose_0 l g h0 b1 b6 b7 b8 b9 b10 b11 b12 b13 b14 b15 b16 b17 b21 b22 b23 b24 b25 b26 b28 b29 b30 b31 b32 b33 b34 b35 b36 b46 b47 b48 b49 b50 b51 b52 b53 b54 b55 b56 b57 b58 b59 b60 b61 b62 b63 n kw (fr + 1) ca x (chO (fun o l => chL n kw x 0 (fr + 1) (if kw / 2 ^ fr % 2 = 1 then ca ||| 2 ^ o else ca) l) fr o la) hn4 hkw hca (by rw [chO_len fr (fun o l => chL_len n kw x 0 _ _ l), hla]) (by omega)) vX12_388 [0, 1] [] rfl rfl rfl rfl rfl rfl hl.1 rfl (Nat.le_of_ble_eq_true rfl) ⟨Nat.le_of_ble_eq_true rfl, Nat.le_of_ble_eq_true rfl⟩ ⟨Nat.le_of_ble_eq_true rfl, Nat.le_of_ble_eq_true rfl⟩ dX12_choose_64 (fun u9 H locs hq hW => ?_)
            obtain rfl := hq
            have hW : WD g A s _ _ [(h0, .inr (12, [.int 0, .ref b1, .int 0, .int 0, .int 0, .int 0, .ref b6, .ref b7, .ref b8, .ref b9, .ref b10, .ref b11, .ref b12, .ref b13, .ref b14, .ref b15, .ref b16, .ref b17, .int 0, .int (-1), .int (-1), .ref b21, .ref b22, .ref b23, .ref b24, .ref b25, .ref b26, .int 0, .ref b28, .ref b29, .ref b30, .ref b31, .ref b32, .ref b33, .ref b34, .ref b35, .ref b36, .int 0, .int 0, .int 0, .int 0, .int 0, .int 0, .int 0, .int 0, .int 0, .ref b46, .ref b47, .ref b48, .ref b49, .ref b50, .ref b51, .ref b52, .ref b53, .ref b54, .ref b55, .ref b56, .ref b57, .ref b58, .ref b59, .ref b60, .ref b61, .ref b62, .ref b63])), (b60, .inl (g.2.1 2, 16, .inr (.inl (lf (chL n kw x 0 (fr + 1) ca (chO (fun o l => chL n kw x 0 (fr + 1) (if kw / 2 ^ fr % 2 = 1 then ca ||| 2 ^ o else ca) l) fr o la))))))] := hW
            have hst : chO (fun o l => chL n kw x 0 (fr + 1) (if kw / 2 ^ fr % 2 = 1 then ca ||| 2 ^ o else ca) l) fr (o + 1) la = chL n kw x 0 (fr + 1) ca (chO (fun o l => chL n kw x 0 (fr + 1) (if kw / 2 ^ fr % 2 = 1 then ca ||| 2 ^ o else ca) l) fr o la) := by
              rw [chO, if_neg hof, if_neg hbit]
            rw [← hst] at hW
            refine lv_iinc (v := nI (o + 1)) (lv' := [(7, .int (nI (o + 1))), (0, .ref h0), (1, .int (nI n)), (2, .int (nI kw)), (3, .int (nI fr)), (4, .int (nI ca)), (5, .long x)]) (pc := 67) hx hb dX12_choose_67 hl (k := 6) rfl (nI_1 o) (by decide) rfl (fun ls hl => ?_)
            refine lv_goto (tgt := 23) (pc := 70) hx hb dX12_choose_70 rfl ?_
            exact ih1 (o + 1) (by omega) (by omega) _ _ _ hW (lv_sub hl [1, 2, 3, 4, 5, 6, 0] rfl)
          · have hbit : kw / 2 ^ fr % 2 = 1 := (nI_eq (by omega) (by decide)).mp c7
            refine lv_iload (pc := 50) hx hb dX12_choose_50 (lv_at hl 4 rfl) ?_
            refine lv_iconst (v := 1) (pc := 52) hx hb dX12_choose_52 (by decide) ?_
            refine lv_iload (pc := 53) hx hb dX12_choose_53 (lv_at hl 6 rfl) ?_
            refine lv_ishl (pc := 55) hx hb dX12_choose_55 ?_
            refine lv_topi (fun v8 ev8 => ?_)
            obtain rfl : v8 = nI (2 ^ o) := ev8.trans (shl_n o (by omega))
            refine lv_ior (pc := 56) hx hb dX12_choose_56 ?_
            refine lv_topi (fun v9 ev9 => ?_)
            obtain rfl : v9 = nI (ca ||| 2 ^ o) := ev9.trans (fa_or _ _)
            refine lv_goto (tgt := 62) (pc := 57) hx hb dX12_choose_57 rfl ?_
            refine lv_lload (pc := 62) hx hb dX12_choose_62 (lv_at hl 5 rfl) ?_
            refine c_Vv (pc := 64) (As := [.int (nI n), .int (nI kw), .int (nI (fr + 1)), .int (nI (ca ||| 2 ^ o)), .long x]) (rest := []) (wr := []) X hW 0 ciX12 rfl (C_choose_0 l g h0 b1 b6 b7 b8 b9 b10 b11 b12 b13 b14 b15 b16 b17 b21 b22 b23 b24 b25 b26 b28 b29 b30 b31 b32 b33 b34 b35 b36 b46 b47 b48 b49 b50 b51 b52 b53 b54 b55 b56 b57 b58 b59 b60 b61 b62 b63 n kw (fr + 1) (ca ||| 2 ^ o) x (chO (fun o l => chL n kw x 0 (fr + 1) (if kw / 2 ^ fr % 2 = 1 then ca ||| 2 ^ o else ca) l) fr o la) hn4 hkw (Nat.or_lt_two_pow (n := 4) hca (p2_4 o (by omega))) (by rw [chO_len fr (fun o l => chL_len n kw x 0 _ _ l), hla]) (by omega)) vX12_388 [0, 1] [] rfl rfl rfl rfl rfl rfl hl.1 rfl (Nat.le_of_ble_eq_true rfl) ⟨Nat.le_of_ble_eq_true rfl, Nat.le_of_ble_eq_true rfl⟩ ⟨Nat.le_of_ble_eq_true rfl, Nat.le_of_ble_eq_true rfl⟩ dX12_choose_64 (fun u9 H locs hq hW => ?_)
            obtain rfl := hq
            have hW : WD g A s _ _ [(h0, .inr (12, [.int 0, .ref b1, .int 0, .int 0, .int 0, .int 0, .ref b6, .ref b7, .ref b8, .ref b9, .ref b10, .ref b11, .ref b12, .ref b13, .ref b14, .ref b15, .ref b16, .ref b17, .int 0, .int (-1), .int (-1), .ref b21, .ref b22, .ref b23, .ref b24, .ref b25, .ref b26, .int 0, .ref b28, .ref b29, .ref b30, .ref b31, .ref b32, .ref b33, .ref b34, .ref b35, .ref b36, .int 0, .int 0, .int 0, .int 0, .int 0, .int 0, .int 0, .int 0, .int 0, .ref b46, .ref b47, .ref b48, .ref b49, .ref b50, .ref b51, .ref b52, .ref b53, .ref b54, .ref b55, .ref b56, .ref b57, .ref b58, .ref b59, .ref b60, .ref b61, .ref b62, .ref b63])), (b60, .inl (g.2.1 2, 16, .inr (.inl (lf (chL n kw x 0 (fr + 1) (ca ||| 2 ^ o) (chO (fun o l => chL n kw x 0 (fr + 1) (if kw / 2 ^ fr % 2 = 1 then ca ||| 2 ^ o else ca) l) fr o la))))))] := hW
            have hst : chO (fun o l => chL n kw x 0 (fr + 1) (if kw / 2 ^ fr % 2 = 1 then ca ||| 2 ^ o else ca) l) fr (o + 1) la = chL n kw x 0 (fr + 1) (ca ||| 2 ^ o) (chO (fun o l => chL n kw x 0 (fr + 1) (if kw / 2 ^ fr % 2 = 1 then ca ||| 2 ^ o else ca) l) fr o la) := by
              rw [chO, if_neg hof, if_pos hbit]
            rw [← hst] at hW
            refine lv_iinc (v := nI (o + 1)) (lv' := [(7, .int (nI (o + 1))), (0, .ref h0), (1, .int (nI n)), (2, .int (nI kw)), (3, .int (nI fr)), (4, .int (nI ca)), (5, .long x)]) (pc := 67) hx hb dX12_choose_67 hl (k := 6) rfl (nI_1 o) (by decide) rfl (fun ls hl => ?_)
            refine lv_goto (tgt := 23) (pc := 70) hx hb dX12_choose_70 rfl ?_
            exact ih1 (o + 1) (by omega) (by omega) _ _ _ hW (lv_sub hl [1, 2, 3, 4, 5, 6, 0] rfl)
  exact loop1 (n + 1) 0 (by omega) (by omega) _ _ _ hW (lv_sub hl [1, 2, 3, 4, 5, 6, 0] rfl)

set_option maxHeartbeats 4000000 in
set_option maxRecDepth 100000 in
theorem C_choose_2 (l : Launch) (g : GG) (h0 b1 b6 b7 b8 b9 b10 b11 b12 b13 b14 b15 b16 b17 b21 b22 b23 b24 b25 b26 b28 b29 b30 b31 b32 b33 b34 b35 b36 b46 b47 b48 b49 b50 b51 b52 b53 b54 b55 b56 b57 b58 b59 b60 b61 b62 b63 : Nat) (n kw fr ca : Nat) (x : Int64) (la : List Int64) (hn4 : n ≤ 4) (hkw : kw < 16) (hca : ca < 16) (hla : la.length = 16) (hfr : fr + 2 = n) : MetV l g yX12_choose cX12_choose 8 none 2 0 0 [.ref h0, .int (nI n), .int (nI kw), .int (nI fr), .int (nI ca), .long x] [(h0, .inr (12, [.int 0, .ref b1, .int 0, .int 0, .int 0, .int 0, .ref b6, .ref b7, .ref b8, .ref b9, .ref b10, .ref b11, .ref b12, .ref b13, .ref b14, .ref b15, .ref b16, .ref b17, .int 0, .int (-1), .int (-1), .ref b21, .ref b22, .ref b23, .ref b24, .ref b25, .ref b26, .int 0, .ref b28, .ref b29, .ref b30, .ref b31, .ref b32, .ref b33, .ref b34, .ref b35, .ref b36, .int 0, .int 0, .int 0, .int 0, .int 0, .int 0, .int 0, .int 0, .int 0, .ref b46, .ref b47, .ref b48, .ref b49, .ref b50, .ref b51, .ref b52, .ref b53, .ref b54, .ref b55, .ref b56, .ref b57, .ref b58, .ref b59, .ref b60, .ref b61, .ref b62, .ref b63])), (b60, .inl (g.2.1 2, 16, .inr (.inl (lf (la)))))] (fun u => u = [(h0, .inr (12, [.int 0, .ref b1, .int 0, .int 0, .int 0, .int 0, .ref b6, .ref b7, .ref b8, .ref b9, .ref b10, .ref b11, .ref b12, .ref b13, .ref b14, .ref b15, .ref b16, .ref b17, .int 0, .int (-1), .int (-1), .ref b21, .ref b22, .ref b23, .ref b24, .ref b25, .ref b26, .int 0, .ref b28, .ref b29, .ref b30, .ref b31, .ref b32, .ref b33, .ref b34, .ref b35, .ref b36, .int 0, .int 0, .int 0, .int 0, .int 0, .int 0, .int 0, .int 0, .int 0, .ref b46, .ref b47, .ref b48, .ref b49, .ref b50, .ref b51, .ref b52, .ref b53, .ref b54, .ref b55, .ref b56, .ref b57, .ref b58, .ref b59, .ref b60, .ref b61, .ref b62, .ref b63])), (b60, .inl (g.2.1 2, 16, .inr (.inl (lf (chL n kw x 2 fr ca la)))))]) := by
  refine MetV.of (own := RX12) rfl (by decide) (Nat.le_of_ble_eq_true rfl) ?_
  intro p e s m below meth c A ls args Q hQ X hr hin hW hl
  have hx := X.1
  have hb := X.2.1
  have hl : lv_has ls 8 [(0, .ref h0), (1, .int (nI n)), (2, .int (nI kw)), (3, .int (nI fr)), (4, .int (nI ca)), (5, .long x)] := hl
  have hb2 : kw / 2 ^ fr % 2 < 2 := Nat.mod_lt _ (by decide)
  refine lv_iload_n (pc := 0) hx hb dX12_choose_0 rfl (lv_at hl 3 rfl) ?_
  refine lv_iload_n (pc := 1) hx hb dX12_choose_1 rfl (lv_at hl 1 rfl) ?_
  refine lv_icmp_ne (tgt := 20) (pc := 2) hx hb dX12_choose_2 rfl (fun c1 => ?_) (fun c1 => absurd c1 (fun q => absurd ((nI_eq (by omega) (by omega)).mp q) (by omega)))
  refine lv_iconst (v := 0) (pc := 20) hx hb dX12_choose_20 (by decide) ?_
  refine lv_istore (lv' := [(7, .int 0), (0, .ref h0), (1, .int (nI n)), (2, .int (nI kw)), (3, .int (nI fr)), (4, .int (nI ca)), (5, .long x)]) (pc := 21) hx hb dX12_choose_21 hl (by decide) rfl (fun ls hl => ?_)
  have loop1 : ∀ (fu : Nat) (o : Nat), (n < fu + o) → (o ≤ n) → ∀ (H : Heap) (locs : List Loc) (ls : Array Slot), WD g A s H locs [(h0, .inr (12, [.int 0, .ref b1, .int 0, .int 0, .int 0, .int 0, .ref b6, .ref b7, .ref b8, .ref b9, .ref b10, .ref b11, .ref b12, .ref b13, .ref b14, .ref b15, .ref b16, .ref b17, .int 0, .int (-1), .int (-1), .ref b21, .ref b22, .ref b23, .ref b24, .ref b25, .ref b26, .int 0, .ref b28, .ref b29, .ref b30, .ref b31, .ref b32, .ref b33, .ref b34, .ref b35, .ref b36, .int 0, .int 0, .int 0, .int 0, .int 0, .int 0, .int 0, .int 0, .int 0, .ref b46, .ref b47, .ref b48, .ref b49, .ref b50, .ref b51, .ref b52, .ref b53, .ref b54, .ref b55, .ref b56, .ref b57, .ref b58, .ref b59, .ref b60, .ref b61, .ref b62, .ref b63])), (b60, .inl (g.2.1 2, 16, .inr (.inl (lf (chO (fun o l => chL n kw x 1 (fr + 1) (if kw / 2 ^ fr % 2 = 1 then ca ||| 2 ^ o else ca) l) fr o la)))))] → lv_has ls 8 [(0, .ref h0), (1, .int (nI n)), (2, .int (nI kw)), (3, .int (nI fr)), (4, .int (nI ca)), (5, .long x), (7, .int (nI o))] → W p l e (RM 2 0 0) s m args below meth c H locs 0 0 Q (F0 m 23 ls []) := by
    intro fu
    induction fu with
    | zero =>
      intro o hm ho
      exact absurd hm (by omega)
    | succ fu ih1 =>
      intro o hm ho H locs ls hW hl
      refine lv_iload (pc := 23) hx hb dX12_choose_23 (lv_at hl 6 rfl) ?_
      refine lv_iload_n (pc := 25) hx hb dX12_choose_25 rfl (lv_at hl 1 rfl) ?_
      refine lv_icmp_ge (tgt := 73) (pc := 26) hx hb dX12_choose_26 rfl (fun c2 => ?_) (fun c2 => ?_)
      · have hon : o = n := by have := ge_t (k := n) (by omega) (by omega) c2; omega
        rw [hon] at hW
        exact e_v X hQ hr hW (u := [(h0, .inr (12, [.int 0, .ref b1, .int 0, .int 0, .int 0, .int 0, .ref b6, .ref b7, .ref b8, .ref b9, .ref b10, .ref b11, .ref b12, .ref b13, .ref b14, .ref b15, .ref b16, .ref b17, .int 0, .int (-1), .int (-1), .ref b21, .ref b22, .ref b23, .ref b24, .ref b25, .ref b26, .int 0, .ref b28, .ref b29, .ref b30, .ref b31, .ref b32, .ref b33, .ref b34, .ref b35, .ref b36, .int 0, .int 0, .int 0, .int 0, .int 0, .int 0, .int 0, .int 0, .int 0, .ref b46, .ref b47, .ref b48, .ref b49, .ref b50, .ref b51, .ref b52, .ref b53, .ref b54, .ref b55, .ref b56, .ref b57, .ref b58, .ref b59, .ref b60, .ref b61, .ref b62, .ref b63])), (b60, .inl (g.2.1 2, 16, .inr (.inl (lf (chL n kw x 2 fr ca la)))))]) [0, 1] rfl rfl (rfl) ⟨Nat.le_of_ble_eq_true rfl, Nat.le_of_ble_eq_true rfl⟩ dX12_choose_73
      · have hlo : o < n := ge_f (by omega) (by omega) c2
        refine lv_iload (pc := 29) hx hb dX12_choose_29 (lv_at hl 6 rfl) ?_
        refine lv_iload_n (pc := 31) hx hb dX12_choose_31 rfl (lv_at hl 3 rfl) ?_
        refine lv_icmp_eq (tgt := 67) (pc := 32) hx hb dX12_choose_32 rfl (fun c3 => ?_) (fun c3 => ?_)
        · have hof : o = fr := (nI_eq (by omega) (by omega)).mp c3
          have hst : chO (fun o l => chL n kw x 1 (fr + 1) (if kw / 2 ^ fr % 2 = 1 then ca ||| 2 ^ o else ca) l) fr (o + 1) la = chO (fun o l => chL n kw x 1 (fr + 1) (if kw / 2 ^ fr % 2 = 1 then ca ||| 2 ^ o else ca) l) fr o la := if_pos hof
          rw [← hst] at hW
          refine lv_iinc (v := nI (o + 1)) (lv' := [(7, .int (nI (o + 1))), (0, .ref h0), (1, .int (nI n)), (2, .int (nI kw)), (3, .int (nI fr)), (4, .int (nI ca)), (5, .long x)]) (pc := 67) hx hb dX12_choose_67 hl (k := 6) rfl (nI_1 o) (by decide) rfl (fun ls hl => ?_)
          refine lv_goto (tgt := 23) (pc := 70) hx hb dX12_choose_70 rfl ?_
          exact ih1 (o + 1) (by omega) (by omega) _ _ _ hW (lv_sub hl [1, 2, 3, 4, 5, 6, 0] rfl)
        · have hof : ¬ o = fr := fun q => c3 (congrArg nI q)
          refine lv_aload_n (pc := 35) hx hb dX12_choose_35 rfl (lv_at hl 0 rfl) ?_
          refine lv_iload_n (pc := 36) hx hb dX12_choose_36 rfl (lv_at hl 1 rfl) ?_
          refine lv_iload_n (pc := 37) hx hb dX12_choose_37 rfl (lv_at hl 2 rfl) ?_
          refine lv_iload_n (pc := 38) hx hb dX12_choose_38 rfl (lv_at hl 3 rfl) ?_
          refine lv_iconst (v := 1) (pc := 39) hx hb dX12_choose_39 (by decide) ?_
          refine lv_iadd (pc := 40) hx hb dX12_choose_40 ?_
          refine lv_topi (fun v4 ev4 => ?_)
          obtain rfl : v4 = nI (fr + 1) := ev4.trans (nI_1 fr)
          refine lv_iload_n (pc := 41) hx hb dX12_choose_41 rfl (lv_at hl 2 rfl) ?_
          refine lv_iload_n (pc := 42) hx hb dX12_choose_42 rfl (lv_at hl 3 rfl) ?_
          refine lv_ishr (pc := 43) hx hb dX12_choose_43 ?_
          refine lv_topi (fun v5 ev5 => ?_)
          obtain rfl : v5 = nI (kw / 2 ^ fr) := ev5.trans (shr_n kw hkw fr (by omega))
          refine lv_iconst (v := 1) (pc := 44) hx hb dX12_choose_44 (by decide) ?_
          refine lv_iand (pc := 45) hx hb dX12_choose_45 ?_
          refine lv_topi (fun v6 ev6 => ?_)
          obtain rfl : v6 = nI (kw / 2 ^ fr % 2) := ev6.trans (and_1 _ (Nat.lt_of_le_of_lt (Nat.div_le_self _ _) hkw))
          refine lv_iconst (v := 1) (pc := 46) hx hb dX12_choose_46 (by decide) ?_
          refine lv_icmp_ne (tgt := 60) (pc := 47) hx hb dX12_choose_47 rfl (fun c7 => ?_) (fun c7 => ?_)
          · have hbit : ¬ kw / 2 ^ fr % 2 = 1 := fun q => c7 (congrArg nI q)
            refine lv_iload (pc := 60) hx hb dX12_choose_60 (lv_at hl 4 rfl) ?_
            refine lv_lload (pc := 62) hx hb dX12_choose_62 (lv_at hl 5 rfl) ?_
            refine c_Vv (pc := 64) (As := [.int (nI n), .int (nI kw), .int (nI (fr + 1)), .int (nI ca), .long x]) (rest := []) (wr := []) X hW 0 ciX12 rfl (C_choose_1 l g h0 b1 b6 b7 b8 b9 b10 b11 b12 b13 b14 b15 b16 b17 b21 b22 b23 b24 b25 b26 b28 b29 b30 b31 b32 b33 b34 b35 b36 b46 b47 b48 b49 b50 b51 b52 b53 b54 b55 b56 b57 b58 b59 b60 b61 b62 b63 n kw (fr + 1) ca x (chO (fun o l => chL n kw x 1 (fr + 1) (if kw / 2 ^ fr % 2 = 1 then ca ||| 2 ^ o else ca) l) fr o la) hn4 hkw hca (by rw [chO_len fr (fun o l => chL_len n kw x 1 _ _ l), hla]) (by omega)) vX12_388 [0, 1] [] rfl rfl rfl rfl rfl rfl hl.1 rfl (Nat.le_of_ble_eq_true rfl) ⟨Nat.le_of_ble_eq_true rfl, Nat.le_of_ble_eq_true rfl⟩ ⟨Nat.le_of_ble_eq_true rfl, Nat.le_of_ble_eq_true rfl⟩ dX12_choose_64 (fun u9 H locs hq hW => ?_)
            obtain rfl := hq
            have hW : WD g A s _ _ [(h0, .inr (12, [.int 0, .ref b1, .int 0, .int 0, .int 0, .int 0, .ref b6, .ref b7, .ref b8, .ref b9, .ref b10, .ref b11, .ref b12, .ref b13, .ref b14, .ref b15, .ref b16, .ref b17, .int 0, .int (-1), .int (-1), .ref b21, .ref b22, .ref b23, .ref b24, .ref b25, .ref b26, .int 0, .ref b28, .ref b29, .ref b30, .ref b31, .ref b32, .ref b33, .ref b34, .ref b35, .ref b36, .int 0, .int 0, .int 0, .int 0, .int 0, .int 0, .int 0, .int 0, .int 0, .ref b46, .ref b47, .ref b48, .ref b49, .ref b50, .ref b51, .ref b52, .ref b53, .ref b54, .ref b55, .ref b56, .ref b57, .ref b58, .ref b59, .ref b60, .ref b61, .ref b62, .ref b63])), (b60, .inl (g.2.1 2, 16, .inr (.inl (lf (chL n kw x 1 (fr + 1) ca (chO (fun o l => chL n kw x 1 (fr + 1) (if kw / 2 ^ fr % 2 = 1 then ca ||| 2 ^ o else ca) l) fr o la))))))] := hW
            have hst : chO (fun o l => chL n kw x 1 (fr + 1) (if kw / 2 ^ fr % 2 = 1 then ca ||| 2 ^ o else ca) l) fr (o + 1) la = chL n kw x 1 (fr + 1) ca (chO (fun o l => chL n kw x 1 (fr + 1) (if kw / 2 ^ fr % 2 = 1 then ca ||| 2 ^ o else ca) l) fr o la) := by
              rw [chO, if_neg hof, if_neg hbit]
            rw [← hst] at hW
            refine lv_iinc (v := nI (o + 1)) (lv' := [(7, .int (nI (o + 1))), (0, .ref h0), (1, .int (nI n)), (2, .int (nI kw)), (3, .int (nI fr)), (4, .int (nI ca)), (5, .long x)]) (pc := 67) hx hb dX12_choose_67 hl (k := 6) rfl (nI_1 o) (by decide) rfl (fun ls hl => ?_)
            refine lv_goto (tgt := 23) (pc := 70) hx hb dX12_choose_70 rfl ?_
            exact ih1 (o + 1) (by omega) (by omega) _ _ _ hW (lv_sub hl [1, 2, 3, 4, 5, 6, 0] rfl)
          · have hbit : kw / 2 ^ fr % 2 = 1 := (nI_eq (by omega) (by decide)).mp c7
            refine lv_iload (pc := 50) hx hb dX12_choose_50 (lv_at hl 4 rfl) ?_
            refine lv_iconst (v := 1) (pc := 52) hx hb dX12_choose_52 (by decide) ?_
            refine lv_iload (pc := 53) hx hb dX12_choose_53 (lv_at hl 6 rfl) ?_
            refine lv_ishl (pc := 55) hx hb dX12_choose_55 ?_
            refine lv_topi (fun v8 ev8 => ?_)
            obtain rfl : v8 = nI (2 ^ o) := ev8.trans (shl_n o (by omega))
            refine lv_ior (pc := 56) hx hb dX12_choose_56 ?_
            refine lv_topi (fun v9 ev9 => ?_)
            obtain rfl : v9 = nI (ca ||| 2 ^ o) := ev9.trans (fa_or _ _)
            refine lv_goto (tgt := 62) (pc := 57) hx hb dX12_choose_57 rfl ?_
            refine lv_lload (pc := 62) hx hb dX12_choose_62 (lv_at hl 5 rfl) ?_
            refine c_Vv (pc := 64) (As := [.int (nI n), .int (nI kw), .int (nI (fr + 1)), .int (nI (ca ||| 2 ^ o)), .long x]) (rest := []) (wr := []) X hW 0 ciX12 rfl (C_choose_1 l g h0 b1 b6 b7 b8 b9 b10 b11 b12 b13 b14 b15 b16 b17 b21 b22 b23 b24 b25 b26 b28 b29 b30 b31 b32 b33 b34 b35 b36 b46 b47 b48 b49 b50 b51 b52 b53 b54 b55 b56 b57 b58 b59 b60 b61 b62 b63 n kw (fr + 1) (ca ||| 2 ^ o) x (chO (fun o l => chL n kw x 1 (fr + 1) (if kw / 2 ^ fr % 2 = 1 then ca ||| 2 ^ o else ca) l) fr o la) hn4 hkw (Nat.or_lt_two_pow (n := 4) hca (p2_4 o (by omega))) (by rw [chO_len fr (fun o l => chL_len n kw x 1 _ _ l), hla]) (by omega)) vX12_388 [0, 1] [] rfl rfl rfl rfl rfl rfl hl.1 rfl (Nat.le_of_ble_eq_true rfl) ⟨Nat.le_of_ble_eq_true rfl, Nat.le_of_ble_eq_true rfl⟩ ⟨Nat.le_of_ble_eq_true rfl, Nat.le_of_ble_eq_true rfl⟩ dX12_choose_64 (fun u9 H locs hq hW => ?_)
            obtain rfl := hq
            have hW : WD g A s _ _ [(h0, .inr (12, [.int 0, .ref b1, .int 0, .int 0, .int 0, .int 0, .ref b6, .ref b7, .ref b8, .ref b9, .ref b10, .ref b11, .ref b12, .ref b13, .ref b14, .ref b15, .ref b16, .ref b17, .int 0, .int (-1), .int (-1), .ref b21, .ref b22, .ref b23, .ref b24, .ref b25, .ref b26, .int 0, .ref b28, .ref b29, .ref b30, .ref b31, .ref b32, .ref b33, .ref b34, .ref b35, .ref b36, .int 0, .int 0, .int 0, .int 0, .int 0, .int 0, .int 0, .int 0, .int 0, .ref b46, .ref b47, .ref b48, .ref b49, .ref b50, .ref b51, .ref b52, .ref b53, .ref b54, .ref b55, .ref b56, .ref b57, .ref b58, .ref b59, .ref b60, .ref b61, .ref b62, .ref b63])), (b60, .inl (g.2.1 2, 16, .inr (.inl (lf (chL n kw x 1 (fr + 1) (ca ||| 2 ^ o) (chO (fun o l => chL n kw x 1 (fr + 1) (if kw / 2 ^ fr % 2 = 1 then ca ||| 2 ^ o else ca) l) fr o la))))))] := hW
            have hst : chO (fun o l => chL n kw x 1 (fr + 1) (if kw / 2 ^ fr % 2 = 1 then ca ||| 2 ^ o else ca) l) fr (o + 1) la = chL n kw x 1 (fr + 1) (ca ||| 2 ^ o) (chO (fun o l => chL n kw x 1 (fr + 1) (if kw / 2 ^ fr % 2 = 1 then ca ||| 2 ^ o else ca) l) fr o la) := by
              rw [chO, if_neg hof, if_pos hbit]
            rw [← hst] at hW
            refine lv_iinc (v := nI (o + 1)) (lv' := [(7, .int (nI (o + 1))), (0, .ref h0), (1, .int (nI n)), (2, .int (nI kw)), (3, .int (nI fr)), (4, .int (nI ca)), (5, .long x)]) (pc := 67) hx hb dX12_choose_67 hl (k := 6) rfl (nI_1 o) (by decide) rfl (fun ls hl => ?_)
            refine lv_goto (tgt := 23) (pc := 70) hx hb dX12_choose_70 rfl ?_
            exact ih1 (o + 1) (by omega) (by omega) _ _ _ hW (lv_sub hl [1, 2, 3, 4, 5, 6, 0] rfl)
  exact loop1 (n + 1) 0 (by omega) (by omega) _ _ _ hW (lv_sub hl [1, 2, 3, 4, 5, 6, 0] rfl)

set_option maxHeartbeats 4000000 in
set_option maxRecDepth 100000 in
theorem C_choose_3 (l : Launch) (g : GG) (h0 b1 b6 b7 b8 b9 b10 b11 b12 b13 b14 b15 b16 b17 b21 b22 b23 b24 b25 b26 b28 b29 b30 b31 b32 b33 b34 b35 b36 b46 b47 b48 b49 b50 b51 b52 b53 b54 b55 b56 b57 b58 b59 b60 b61 b62 b63 : Nat) (n kw fr ca : Nat) (x : Int64) (la : List Int64) (hn4 : n ≤ 4) (hkw : kw < 16) (hca : ca < 16) (hla : la.length = 16) (hfr : fr + 3 = n) : MetV l g yX12_choose cX12_choose 8 none 3 0 0 [.ref h0, .int (nI n), .int (nI kw), .int (nI fr), .int (nI ca), .long x] [(h0, .inr (12, [.int 0, .ref b1, .int 0, .int 0, .int 0, .int 0, .ref b6, .ref b7, .ref b8, .ref b9, .ref b10, .ref b11, .ref b12, .ref b13, .ref b14, .ref b15, .ref b16, .ref b17, .int 0, .int (-1), .int (-1), .ref b21, .ref b22, .ref b23, .ref b24, .ref b25, .ref b26, .int 0, .ref b28, .ref b29, .ref b30, .ref b31, .ref b32, .ref b33, .ref b34, .ref b35, .ref b36, .int 0, .int 0, .int 0, .int 0, .int 0, .int 0, .int 0, .int 0, .int 0, .ref b46, .ref b47, .ref b48, .ref b49, .ref b50, .ref b51, .ref b52, .ref b53, .ref b54, .ref b55, .ref b56, .ref b57, .ref b58, .ref b59, .ref b60, .ref b61, .ref b62, .ref b63])), (b60, .inl (g.2.1 2, 16, .inr (.inl (lf (la)))))] (fun u => u = [(h0, .inr (12, [.int 0, .ref b1, .int 0, .int 0, .int 0, .int 0, .ref b6, .ref b7, .ref b8, .ref b9, .ref b10, .ref b11, .ref b12, .ref b13, .ref b14, .ref b15, .ref b16, .ref b17, .int 0, .int (-1), .int (-1), .ref b21, .ref b22, .ref b23, .ref b24, .ref b25, .ref b26, .int 0, .ref b28, .ref b29, .ref b30, .ref b31, .ref b32, .ref b33, .ref b34, .ref b35, .ref b36, .int 0, .int 0, .int 0, .int 0, .int 0, .int 0, .int 0, .int 0, .int 0, .ref b46, .ref b47, .ref b48, .ref b49, .ref b50, .ref b51, .ref b52, .ref b53, .ref b54, .ref b55, .ref b56, .ref b57, .ref b58, .ref b59, .ref b60, .ref b61, .ref b62, .ref b63])), (b60, .inl (g.2.1 2, 16, .inr (.inl (lf (chL n kw x 3 fr ca la)))))]) := by
  refine MetV.of (own := RX12) rfl (by decide) (Nat.le_of_ble_eq_true rfl) ?_
  intro p e s m below meth c A ls args Q hQ X hr hin hW hl
  have hx := X.1
  have hb := X.2.1
  have hl : lv_has ls 8 [(0, .ref h0), (1, .int (nI n)), (2, .int (nI kw)), (3, .int (nI fr)), (4, .int (nI ca)), (5, .long x)] := hl
  have hb2 : kw / 2 ^ fr % 2 < 2 := Nat.mod_lt _ (by decide)
  refine lv_iload_n (pc := 0) hx hb dX12_choose_0 rfl (lv_at hl 3 rfl) ?_
  refine lv_iload_n (pc := 1) hx hb dX12_choose_1 rfl (lv_at hl 1 rfl) ?_
  refine lv_icmp_ne (tgt := 20) (pc := 2) hx hb dX12_choose_2 rfl (fun c1 => ?_) (fun c1 => absurd c1 (fun q => absurd ((nI_eq (by omega) (by omega)).mp q) (by omega)))
  refine lv_iconst (v := 0) (pc := 20) hx hb dX12_choose_20 (by decide) ?_
  refine lv_istore (lv' := [(7, .int 0), (0, .ref h0), (1, .int (nI n)), (2, .int (nI kw)), (3, .int (nI fr)), (4, .int (nI ca)), (5, .long x)]) (pc := 21) hx hb dX12_choose_21 hl (by decide) rfl (fun ls hl => ?_)
  have loop1 : ∀ (fu : Nat) (o : Nat), (n < fu + o) → (o ≤ n) → ∀ (H : Heap) (locs : List Loc) (ls : Array Slot), WD g A s H locs [(h0, .inr (12, [.int 0, .ref b1, .int 0, .int 0, .int 0, .int 0, .ref b6, .ref b7, .ref b8, .ref b9, .ref b10, .ref b11, .ref b12, .ref b13, .ref b14, .ref b15, .ref b16, .ref b17, .int 0, .int (-1), .int (-1), .ref b21, .ref b22, .ref b23, .ref b24, .ref b25, .ref b26, .int 0, .ref b28, .ref b29, .ref b30, .ref b31, .ref b32, .ref b33, .ref b34, .ref b35, .ref b36, .int 0, .int 0, .int 0, .int 0, .int 0, .int 0, .int 0, .int 0, .int 0, .ref b46, .ref b47, .ref b48, .ref b49, .ref b50, .ref b51, .ref b52, .ref b53, .ref b54, .ref b55, .ref b56, .ref b57, .ref b58, .ref b59, .ref b60, .ref b61, .ref b62, .ref b63])), (b60, .inl (g.2.1 2, 16, .inr (.inl (lf (chO (fun o l => chL n kw x 2 (fr + 1) (if kw / 2 ^ fr % 2 = 1 then ca ||| 2 ^ o else ca) l) fr o la)))))] → lv_has ls 8 [(0, .ref h0), (1, .int (nI n)), (2, .int (nI kw)), (3, .int (nI fr)), (4, .int (nI ca)), (5, .long x), (7, .int (nI o))] → W p l e (RM 3 0 0) s m args below meth c H locs 0 0 Q (F0 m 23 ls []) := by
    intro fu
    induction fu with
    | zero =>
      intro o hm ho
      exact absurd hm (by omega)
    | succ fu ih1 =>
      intro o hm ho H locs ls hW hl
      refine lv_iload (pc := 23) hx hb dX12_choose_23 (lv_at hl 6 rfl) ?_
      refine lv_iload_n (pc := 25) hx hb dX12_choose_25 rfl (lv_at hl 1 rfl) ?_
      refine lv_icmp_ge (tgt := 73) (pc := 26) hx hb dX12_choose_26 rfl (fun c2 => ?_) (fun c2 => ?_)
      · have hon : o = n := by have := ge_t (k := n) (by omega) (by omega) c2; omega
        rw [hon] at hW
        exact e_v X hQ hr hW (u := [(h0, .inr (12, [.int 0, .ref b1, .int 0, .int 0, .int 0, .int 0, .ref b6, .ref b7, .ref b8, .ref b9, .ref b10, .ref b11, .ref b12, .ref b13, .ref b14, .ref b15, .ref b16, .ref b17, .int 0, .int (-1), .int (-1), .ref b21, .ref b22, .ref b23, .ref b24, .ref b25, .ref b26, .int 0, .ref b28, .ref b29, .ref b30, .ref b31, .ref b32, .ref b33, .ref b34, .ref b35, .ref b36, .int 0, .int 0, .int 0, .int 0, .int 0, .int 0, .int 0, .int 0, .int 0, .ref b46, .ref b47, .ref b48, .ref b49, .ref b50, .ref b51, .ref b52, .ref b53, .ref b54, .ref b55, .ref b56, .ref b57, .ref b58, .ref b59, .ref b60, .ref b61, .ref b62, .ref b63])), (b60, .inl (g.2.1 2, 16, .inr (.inl (lf (chL n kw x 3 fr ca la)))))]) [0, 1] rfl rfl (rfl) ⟨Nat.le_of_ble_eq_true rfl, Nat.le_of_ble_eq_true rfl⟩ dX12_choose_73
      · have hlo : o < n := ge_f (by omega) (by omega) c2
        refine lv_iload (pc := 29) hx hb dX12_choose_29 (lv_at hl 6 rfl) ?_
        refine lv_iload_n (pc := 31) hx hb dX12_choose_31 rfl (lv_at hl 3 rfl) ?_
        refine lv_icmp_eq (tgt := 67) (pc := 32) hx hb dX12_choose_32 rfl (fun c3 => ?_) (fun c3 => ?_)
        · have hof : o = fr := (nI_eq (by omega) (by omega)).mp c3
          have hst : chO (fun o l => chL n kw x 2 (fr + 1) (if kw / 2 ^ fr % 2 = 1 then ca ||| 2 ^ o else ca) l) fr (o + 1) la = chO (fun o l => chL n kw x 2 (fr + 1) (if kw / 2 ^ fr % 2 = 1 then ca ||| 2 ^ o else ca) l) fr o la := if_pos hof
          rw [← hst] at hW
          refine lv_iinc (v := nI (o + 1)) (lv' := [(7, .int (nI (o + 1))), (0, .ref h0), (1, .int (nI n)), (2, .int (nI kw)), (3, .int (nI fr)), (4, .int (nI ca)), (5, .long x)]) (pc := 67) hx hb dX12_choose_67 hl (k := 6) rfl (nI_1 o) (by decide) rfl (fun ls hl => ?_)
          refine lv_goto (tgt := 23) (pc := 70) hx hb dX12_choose_70 rfl ?_
          exact ih1 (o + 1) (by omega) (by omega) _ _ _ hW (lv_sub hl [1, 2, 3, 4, 5, 6, 0] rfl)
        · have hof : ¬ o = fr := fun q => c3 (congrArg nI q)
          refine lv_aload_n (pc := 35) hx hb dX12_choose_35 rfl (lv_at hl 0 rfl) ?_
          refine lv_iload_n (pc := 36) hx hb dX12_choose_36 rfl (lv_at hl 1 rfl) ?_
          refine lv_iload_n (pc := 37) hx hb dX12_choose_37 rfl (lv_at hl 2 rfl) ?_
          refine lv_iload_n (pc := 38) hx hb dX12_choose_38 rfl (lv_at hl 3 rfl) ?_
          refine lv_iconst (v := 1) (pc := 39) hx hb dX12_choose_39 (by decide) ?_
          refine lv_iadd (pc := 40) hx hb dX12_choose_40 ?_
          refine lv_topi (fun v4 ev4 => ?_)
          obtain rfl : v4 = nI (fr + 1) := ev4.trans (nI_1 fr)
          refine lv_iload_n (pc := 41) hx hb dX12_choose_41 rfl (lv_at hl 2 rfl) ?_
          refine lv_iload_n (pc := 42) hx hb dX12_choose_42 rfl (lv_at hl 3 rfl) ?_
          refine lv_ishr (pc := 43) hx hb dX12_choose_43 ?_
          refine lv_topi (fun v5 ev5 => ?_)
          obtain rfl : v5 = nI (kw / 2 ^ fr) := ev5.trans (shr_n kw hkw fr (by omega))
          refine lv_iconst (v := 1) (pc := 44) hx hb dX12_choose_44 (by decide) ?_
          refine lv_iand (pc := 45) hx hb dX12_choose_45 ?_
          refine lv_topi (fun v6 ev6 => ?_)
          obtain rfl : v6 = nI (kw / 2 ^ fr % 2) := ev6.trans (and_1 _ (Nat.lt_of_le_of_lt (Nat.div_le_self _ _) hkw))
          refine lv_iconst (v := 1) (pc := 46) hx hb dX12_choose_46 (by decide) ?_
          refine lv_icmp_ne (tgt := 60) (pc := 47) hx hb dX12_choose_47 rfl (fun c7 => ?_) (fun c7 => ?_)
          · have hbit : ¬ kw / 2 ^ fr % 2 = 1 := fun q => c7 (congrArg nI q)
            refine lv_iload (pc := 60) hx hb dX12_choose_60 (lv_at hl 4 rfl) ?_
            refine lv_lload (pc := 62) hx hb dX12_choose_62 (lv_at hl 5 rfl) ?_
            refine c_Vv (pc := 64) (As := [.int (nI n), .int (nI kw), .int (nI (fr + 1)), .int (nI ca), .long x]) (rest := []) (wr := []) X hW 0 ciX12 rfl (C_choose_2 l g h0 b1 b6 b7 b8 b9 b10 b11 b12 b13 b14 b15 b16 b17 b21 b22 b23 b24 b25 b26 b28 b29 b30 b31 b32 b33 b34 b35 b36 b46 b47 b48 b49 b50 b51 b52 b53 b54 b55 b56 b57 b58 b59 b60 b61 b62 b63 n kw (fr + 1) ca x (chO (fun o l => chL n kw x 2 (fr + 1) (if kw / 2 ^ fr % 2 = 1 then ca ||| 2 ^ o else ca) l) fr o la) hn4 hkw hca (by rw [chO_len fr (fun o l => chL_len n kw x 2 _ _ l), hla]) (by omega)) vX12_388 [0, 1] [] rfl rfl rfl rfl rfl rfl hl.1 rfl (Nat.le_of_ble_eq_true rfl) ⟨Nat.le_of_ble_eq_true rfl, Nat.le_of_ble_eq_true rfl⟩ ⟨Nat.le_of_ble_eq_true rfl, Nat.le_of_ble_eq_true rfl⟩ dX12_choose_64 (fun u9 H locs hq hW => ?_)
            obtain rfl := hq
            have hW : WD g A s _ _ [(h0, .inr (12, [.int 0, .ref b1, .int 0, .int 0, .int 0, .int 0, .ref b6, .ref b7, .ref b8, .ref b9, .ref b10, .ref b11, .ref b12, .ref b13, .ref b14, .ref b15, .ref b16, .ref b17, .int 0, .int (-1), .int (-1), .ref b21, .ref b22, .ref b23, .ref b24, .ref b25, .ref b26, .int 0, .ref b28, .ref b29, .ref b30, .ref b31, .ref b32, .ref b33, .ref b34, .ref b35, .ref b36, .int 0, .int 0, .int 0, .int 0, .int 0, .int 0, .int 0, .int 0, .int 0, .ref b46, .ref b47, .ref b48, .ref b49, .ref b50, .ref b51, .ref b52, .ref b53, .ref b54, .ref b55, .ref b56, .ref b57, .ref b58, .ref b59, .ref b60, .ref b61, .ref b62, .ref b63])), (b60, .inl (g.2.1 2, 16, .inr (.inl (lf (chL n kw x 2 (fr + 1) ca (chO (fun o l => chL n kw x 2 (fr + 1) (if kw / 2 ^ fr % 2 = 1 then ca ||| 2 ^ o else ca) l) fr o la))))))] := hW
            have hst : chO (fun o l => chL n kw x 2 (fr + 1) (if kw / 2 ^ fr % 2 = 1 then ca ||| 2 ^ o else ca) l) fr (o + 1) la = chL n kw x 2 (fr + 1) ca (chO (fun o l => chL n kw x 2 (fr + 1) (if kw / 2 ^ fr % 2 = 1 then ca ||| 2 ^ o else ca) l) fr o la) := by
              rw [chO, if_neg hof, if_neg hbit]
            rw [← hst] at hW
            refine lv_iinc (v := nI (o + 1)) (lv' := [(7, .int (nI (o + 1))), (0, .ref h0), (1, .int (nI n)), (2, .int (nI kw)), (3, .int (nI fr)), (4, .int (nI ca)), (5, .long x)]) (pc := 67) hx hb dX12_choose_67 hl (k := 6) rfl (nI_1 o) (by decide) rfl (fun ls hl => ?_)
            refine lv_goto (tgt := 23) (pc := 70) hx hb dX12_choose_70 rfl ?_
            exact ih1 (o + 1) (by omega) (by omega) _ _ _ hW (lv_sub hl [1, 2, 3, 4, 5, 6, 0] rfl)
          · have hbit : kw / 2 ^ fr % 2 = 1 := (nI_eq (by omega) (by decide)).mp c7
            refine lv_iload (pc := 50) hx hb dX12_choose_50 (lv_at hl 4 rfl) ?_
            refine lv_iconst (v := 1) (pc := 52) hx hb dX12_choose_52 (by decide) ?_
            refine lv_iload (pc := 53) hx hb dX12_choose_53 (lv_at hl 6 rfl) ?_
            refine lv_ishl (pc := 55) hx hb dX12_choose_55 ?_
            refine lv_topi (fun v8 ev8 => ?_)
            obtain rfl : v8 = nI (2 ^ o) := ev8.trans (shl_n o (by omega))
            refine lv_ior (pc := 56) hx hb dX12_choose_56 ?_
            refine lv_topi (fun v9 ev9 => ?_)
            obtain rfl : v9 = nI (ca ||| 2 ^ o) := ev9.trans (fa_or _ _)
            refine lv_goto (tgt := 62) (pc := 57) hx hb dX12_choose_57 rfl ?_
            refine lv_lload (pc := 62) hx hb dX12_choose_62 (lv_at hl 5 rfl) ?_
            refine c_Vv (pc := 64) (As := [.int (nI n), .int (nI kw), .int (nI (fr + 1)), .int (nI (ca ||| 2 ^ o)), .long x]) (rest := []) (wr := []) X hW 0 ciX12 rfl (C_choose_2 l g h0 b1 b6 b7 b8 b9 b10 b11 b12 b13 b14 b15 b16 b17 b21 b22 b23 b24 b25 b26 b28 b29 b30 b31 b32 b33 b34 b35 b36 b46 b47 b48 b49 b50 b51 b52 b53 b54 b55 b56 b57 b58 b59 b60 b61 b62 b63 n kw (fr + 1) (ca ||| 2 ^ o) x (chO (fun o l => chL n kw x 2 (fr + 1) (if kw / 2 ^ fr % 2 = 1 then ca ||| 2 ^ o else ca) l) fr o la) hn4 hkw (Nat.or_lt_two_pow (n := 4) hca (p2_4 o (by omega))) (by rw [chO_len fr (fun o l => chL_len n kw x 2 _ _ l), hla]) (by omega)) vX12_388 [0, 1] [] rfl rfl rfl rfl rfl rfl hl.1 rfl (Nat.le_of_ble_eq_true rfl) ⟨Nat.le_of_ble_eq_true rfl, Nat.le_of_ble_eq_true rfl⟩ ⟨Nat.le_of_ble_eq_true rfl, Nat.le_of_ble_eq_true rfl⟩ dX12_choose_64 (fun u9 H locs hq hW => ?_)
            obtain rfl := hq
            have hW : WD g A s _ _ [(h0, .inr (12, [.int 0, .ref b1, .int 0, .int 0, .int 0, .int 0, .ref b6, .ref b7, .ref b8, .ref b9, .ref b10, .ref b11, .ref b12, .ref b13, .ref b14, .ref b15, .ref b16, .ref b17, .int 0, .int (-1), .int (-1), .ref b21, .ref b22, .ref b23, .ref b24, .ref b25, .ref b26, .int 0, .ref b28, .ref b29, .ref b30, .ref b31, .ref b32, .ref b33, .ref b34, .ref b35, .ref b36, .int 0, .int 0, .int 0, .int 0, .int 0, .int 0, .int 0, .int 0, .int 0, .ref b46, .ref b47, .ref b48, .ref b49, .ref b50, .ref b51, .ref b52, .ref b53, .ref b54, .ref b55, .ref b56, .ref b57, .ref b58, .ref b59, .ref b60, .ref b61, .ref b62, .ref b63])), (b60, .inl (g.2.1 2, 16, .inr (.inl (lf (chL n kw x 2 (fr + 1) (ca ||| 2 ^ o) (chO (fun o l => chL n kw x 2 (fr + 1) (if kw / 2 ^ fr % 2 = 1 then ca ||| 2 ^ o else ca) l) fr o la))))))] := hW
            have hst : chO (fun o l => chL n kw x 2 (fr + 1) (if kw / 2 ^ fr % 2 = 1 then ca ||| 2 ^ o else ca) l) fr (o + 1) la = chL n kw x 2 (fr + 1) (ca ||| 2 ^ o) (chO (fun o l => chL n kw x 2 (fr + 1) (if kw / 2 ^ fr % 2 = 1 then ca ||| 2 ^ o else ca) l) fr o la) := by
              rw [chO, if_neg hof, if_pos hbit]
            rw [← hst] at hW
            refine lv_iinc (v := nI (o + 1)) (lv' := [(7, .int (nI (o + 1))), (0, .ref h0), (1, .int (nI n)), (2, .int (nI kw)), (3, .int (nI fr)), (4, .int (nI ca)), (5, .long x)]) (pc := 67) hx hb dX12_choose_67 hl (k := 6) rfl (nI_1 o) (by decide) rfl (fun ls hl => ?_)
            refine lv_goto (tgt := 23) (pc := 70) hx hb dX12_choose_70 rfl ?_
            exact ih1 (o + 1) (by omega) (by omega) _ _ _ hW (lv_sub hl [1, 2, 3, 4, 5, 6, 0] rfl)
  exact loop1 (n + 1) 0 (by omega) (by omega) _ _ _ hW (lv_sub hl [1, 2, 3, 4, 5, 6, 0] rfl)

set_option maxHeartbeats 4000000 in
set_option maxRecDepth 100000 in
theorem C_choose_4 (l : Launch) (g : GG) (h0 b1 b6 b7 b8 b9 b10 b11 b12 b13 b14 b15 b16 b17 b21 b22 b23 b24 b25 b26 b28 b29 b30 b31 b32 b33 b34 b35 b36 b46 b47 b48 b49 b50 b51 b52 b53 b54 b55 b56 b57 b58 b59 b60 b61 b62 b63 : Nat) (n kw fr ca : Nat) (x : Int64) (la : List Int64) (hn4 : n ≤ 4) (hkw : kw < 16) (hca : ca < 16) (hla : la.length = 16) (hfr : fr + 4 = n) : MetV l g yX12_choose cX12_choose 8 none 4 0 0 [.ref h0, .int (nI n), .int (nI kw), .int (nI fr), .int (nI ca), .long x] [(h0, .inr (12, [.int 0, .ref b1, .int 0, .int 0, .int 0, .int 0, .ref b6, .ref b7, .ref b8, .ref b9, .ref b10, .ref b11, .ref b12, .ref b13, .ref b14, .ref b15, .ref b16, .ref b17, .int 0, .int (-1), .int (-1), .ref b21, .ref b22, .ref b23, .ref b24, .ref b25, .ref b26, .int 0, .ref b28, .ref b29, .ref b30, .ref b31, .ref b32, .ref b33, .ref b34, .ref b35, .ref b36, .int 0, .int 0, .int 0, .int 0, .int 0, .int 0, .int 0, .int 0, .int 0, .ref b46, .ref b47, .ref b48, .ref b49, .ref b50, .ref b51, .ref b52, .ref b53, .ref b54, .ref b55, .ref b56, .ref b57, .ref b58, .ref b59, .ref b60, .ref b61, .ref b62, .ref b63])), (b60, .inl (g.2.1 2, 16, .inr (.inl (lf (la)))))] (fun u => u = [(h0, .inr (12, [.int 0, .ref b1, .int 0, .int 0, .int 0, .int 0, .ref b6, .ref b7, .ref b8, .ref b9, .ref b10, .ref b11, .ref b12, .ref b13, .ref b14, .ref b15, .ref b16, .ref b17, .int 0, .int (-1), .int (-1), .ref b21, .ref b22, .ref b23, .ref b24, .ref b25, .ref b26, .int 0, .ref b28, .ref b29, .ref b30, .ref b31, .ref b32, .ref b33, .ref b34, .ref b35, .ref b36, .int 0, .int 0, .int 0, .int 0, .int 0, .int 0, .int 0, .int 0, .int 0, .ref b46, .ref b47, .ref b48, .ref b49, .ref b50, .ref b51, .ref b52, .ref b53, .ref b54, .ref b55, .ref b56, .ref b57, .ref b58, .ref b59, .ref b60, .ref b61, .ref b62, .ref b63])), (b60, .inl (g.2.1 2, 16, .inr (.inl (lf (chL n kw x 4 fr ca la)))))]) := by
  refine MetV.of (own := RX12) rfl (by decide) (Nat.le_of_ble_eq_true rfl) ?_
  intro p e s m below meth c A ls args Q hQ X hr hin hW hl
  have hx := X.1
  have hb := X.2.1
  have hl : lv_has ls 8 [(0, .ref h0), (1, .int (nI n)), (2, .int (nI kw)), (3, .int (nI fr)), (4, .int (nI ca)), (5, .long x)] := hl
  have hb2 : kw / 2 ^ fr % 2 < 2 := Nat.mod_lt _ (by decide)
  refine lv_iload_n (pc := 0) hx hb dX12_choose_0 rfl (lv_at hl 3 rfl) ?_
  refine lv_iload_n (pc := 1) hx hb dX12_choose_1 rfl (lv_at hl 1 rfl) ?_
  refine lv_icmp_ne (tgt := 20) (pc := 2) hx hb dX12_choose_2 rfl (fun c1 => ?_) (fun c1 => absurd c1 (fun q => absurd ((nI_eq (by omega) (by omega)).mp q) (by omega)))
  refine lv_iconst (v := 0) (pc := 20) hx hb dX12_choose_20 (by decide) ?_
  refine lv_istore (lv' := [(7, .int 0), (0, .ref h0), (1, .int (nI n)), (2, .int (nI kw)), (3, .int (nI fr)), (4, .int (nI ca)), (5, .long x)]) (pc := 21) hx hb dX12_choose_21 hl (by decide) rfl (fun ls hl => ?_)
  have loop1 : ∀ (fu : Nat) (o : Nat), (n < fu + o) → (o ≤ n) → ∀ (H : Heap) (locs : List Loc) (ls : Array Slot), WD g A s H locs [(h0, .inr (12, [.int 0, .ref b1, .int 0, .int 0, .int 0, .int 0, .ref b6, .ref b7, .ref b8, .ref b9, .ref b10, .ref b11, .ref b12, .ref b13, .ref b14, .ref b15, .ref b16, .ref b17, .int 0, .int (-1), .int (-1), .ref b21, .ref b22, .ref b23, .ref b24, .ref b25, .ref b26, .int 0, .ref b28, .ref b29, .ref b30, .ref b31, .ref b32, .ref b33, .ref b34, .ref b35, .ref b36, .int 0, .int 0, .int 0, .int 0, .int 0, .int 0, .int 0, .int 0, .int 0, .ref b46, .ref b47, .ref b48, .ref b49, .ref b50, .ref b51, .ref b52, .ref b53, .ref b54, .ref b55, .ref b56, .ref b57, .ref b58, .ref b59, .ref b60, .ref b61, .ref b62, .ref b63])), (b60, .inl (g.2.1 2, 16, .inr (.inl (lf (chO (fun o l => chL n kw x 3 (fr + 1) (if kw / 2 ^ fr % 2 = 1 then ca ||| 2 ^ o else ca) l) fr o la)))))] → lv_has ls 8 [(0, .ref h0), (1, .int (nI n)), (2, .int (nI kw)), (3, .int (nI fr)), (4, .int (nI ca)), (5, .long x), (7, .int (nI o))] → W p l e (RM 4 0 0) s m args below meth c H locs 0 0 Q (F0 m 23 ls []) := by
    intro fu
    induction fu with
    | zero =>
      intro o hm ho
      exact absurd hm (by omega)
    | succ fu ih1 =>
      intro o hm ho H locs ls hW hl
      refine lv_iload (pc := 23) hx hb dX12_choose_23 (lv_at hl 6 rfl) ?_
      refine lv_iload_n (pc := 25) hx hb dX12_choose_25 rfl (lv_at hl 1 rfl) ?_
      refine lv_icmp_ge (tgt := 73) (pc := 26) hx hb dX12_choose_26 rfl (fun c2 => ?_) (fun c2 => ?_)
      · have hon : o = n := by have := ge_t (k := n) (by omega) (by omega) c2; omega
        rw [hon] at hW
        exact e_v X hQ hr hW (u := [(h0, .inr (12, [.int 0, .ref b1, .int 0, .int 0, .int 0, .int 0, .ref b6, .ref b7, .ref b8, .ref b9, .ref b10, .ref b11, .ref b12, .ref b13, .ref b14, .ref b15, .ref b16, .ref b17, .int 0, .int (-1), .int (-1), .ref b21, .ref b22, .ref b23, .ref b24, .ref b25, .ref b26, .int 0, .ref b28, .ref b29, .ref b30, .ref b31, .ref b32, .ref b33, .ref b34, .ref b35, .ref b36, .int 0, .int 0, .int 0, .int 0, .int 0, .int 0, .int 0, .int 0, .int 0, .ref b46, .ref b47, .ref b48, .ref b49, .ref b50, .ref b51, .ref b52, .ref b53, .ref b54, .ref b55, .ref b56, .ref b57, .ref b58, .ref b59, .ref b60, .ref b61, .ref b62, .ref b63])), (b60, .inl (g.2.1 2, 16, .inr (.inl (lf (chL n kw x 4 fr ca la)))))]) [0, 1] rfl rfl (rfl) ⟨Nat.le_of_ble_eq_true rfl, Nat.le_of_ble_eq_true rfl⟩ dX12_choose_73
      · have hlo : o < n := ge_f (by omega) (by omega) c2
        refine lv_iload (pc := 29) hx hb dX12_choose_29 (lv_at hl 6 rfl) ?_
        refine lv_iload_n (pc := 31) hx hb dX12_choose_31 rfl (lv_at hl 3 rfl) ?_
        refine lv_icmp_eq (tgt := 67) (pc := 32) hx hb dX12_choose_32 rfl (fun c3 => ?_) (fun c3 => ?_)
        · have hof : o = fr := (nI_eq (by omega) (by omega)).mp c3
          have hst : chO (fun o l => chL n kw x 3 (fr + 1) (if kw / 2 ^ fr % 2 = 1 then ca ||| 2 ^ o else ca) l) fr (o + 1) la = chO (fun o l => chL n kw x 3 (fr + 1) (if kw / 2 ^ fr % 2 = 1 then ca ||| 2 ^ o else ca) l) fr o la := if_pos hof
          rw [← hst] at hW
          refine lv_iinc (v := nI (o + 1)) (lv' := [(7, .int (nI (o + 1))), (0, .ref h0), (1, .int (nI n)), (2, .int (nI kw)), (3, .int (nI fr)), (4, .int (nI ca)), (5, .long x)]) (pc := 67) hx hb dX12_choose_67 hl (k := 6) rfl (nI_1 o) (by decide) rfl (fun ls hl => ?_)
          refine lv_goto (tgt := 23) (pc := 70) hx hb dX12_choose_70 rfl ?_
          exact ih1 (o + 1) (by omega) (by omega) _ _ _ hW (lv_sub hl [1, 2, 3, 4, 5, 6, 0] rfl)
        · have hof : ¬ o = fr := fun q => c3 (congrArg nI q)
          refine lv_aload_n (pc := 35) hx hb dX12_choose_35 rfl (lv_at hl 0 rfl) ?_
          refine lv_iload_n (pc := 36) hx hb dX12_choose_36 rfl (lv_at hl 1 rfl) ?_
          refine lv_iload_n (pc := 37) hx hb dX12_choose_37 rfl (lv_at hl 2 rfl) ?_
          refine lv_iload_n (pc := 38) hx hb dX12_choose_38 rfl (lv_at hl 3 rfl) ?_
          refine lv_iconst (v := 1) (pc := 39) hx hb dX12_choose_39 (by decide) ?_
          refine lv_iadd (pc := 40) hx hb dX12_choose_40 ?_
          refine lv_topi (fun v4 ev4 => ?_)
          obtain rfl : v4 = nI (fr + 1) := ev4.trans (nI_1 fr)
          refine lv_iload_n (pc := 41) hx hb dX12_choose_41 rfl (lv_at hl 2 rfl) ?_
          refine lv_iload_n (pc := 42) hx hb dX12_choose_42 rfl (lv_at hl 3 rfl) ?_
          refine lv_ishr (pc := 43) hx hb dX12_choose_43 ?_
          refine lv_topi (fun v5 ev5 => ?_)
          obtain rfl : v5 = nI (kw / 2 ^ fr) := ev5.trans (shr_n kw hkw fr (by omega))
          refine lv_iconst (v := 1) (pc := 44) hx hb dX12_choose_44 (by decide) ?_
          refine lv_iand (pc := 45) hx hb dX12_choose_45 ?_
          refine lv_topi (fun v6 ev6 => ?_)
          obtain rfl : v6 = nI (kw / 2 ^ fr % 2) := ev6.trans (and_1 _ (Nat.lt_of_le_of_lt (Nat.div_le_self _ _) hkw))
          refine lv_iconst (v := 1) (pc := 46) hx hb dX12_choose_46 (by decide) ?_
          refine lv_icmp_ne (tgt := 60) (pc := 47) hx hb dX12_choose_47 rfl (fun c7 => ?_) (fun c7 => ?_)
          · have hbit : ¬ kw / 2 ^ fr % 2 = 1 := fun q => c7 (congrArg nI q)
            refine lv_iload (pc := 60) hx hb dX12_choose_60 (lv_at hl 4 rfl) ?_
            refine lv_lload (pc := 62) hx hb dX12_choose_62 (lv_at hl 5 rfl) ?_
            refine c_Vv (pc := 64) (As := [.int (nI n), .int (nI kw), .int (nI (fr + 1)), .int (nI ca), .long x]) (rest := []) (wr := []) X hW 0 ciX12 rfl (C_choose_3 l g h0 b1 b6 b7 b8 b9 b10 b11 b12 b13 b14 b15 b16 b17 b21 b22 b23 b24 b25 b26 b28 b29 b30 b31 b32 b33 b34 b35 b36 b46 b47 b48 b49 b50 b51 b52 b53 b54 b55 b56 b57 b58 b59 b60 b61 b62 b63 n kw (fr + 1) ca x (chO (fun o l => chL n kw x 3 (fr + 1) (if kw / 2 ^ fr % 2 = 1 then ca ||| 2 ^ o else ca) l) fr o la) hn4 hkw hca (by rw [chO_len fr (fun o l => chL_len n kw x 3 _ _ l), hla]) (by omega)) vX12_388 [0, 1] [] rfl rfl rfl rfl rfl rfl hl.1 rfl (Nat.le_of_ble_eq_true rfl) ⟨Nat.le_of_ble_eq_true rfl, Nat.le_of_ble_eq_true rfl⟩ ⟨Nat.le_of_ble_eq_true rfl, Nat.le_of_ble_eq_true rfl⟩ dX12_choose_64 (fun u9 H locs hq hW => ?_)
            obtain rfl := hq
            have hW : WD g A s _ _ [(h0, .inr (12, [.int 0, .ref b1, .int 0, .int 0, .int 0, .int 0, .ref b6, .ref b7, .ref b8, .ref b9, .ref b10, .ref b11, .ref b12, .ref b13, .ref b14, .ref b15, .ref b16, .ref b17, .int 0, .int (-1), .int (-1), .ref b21, .ref b22, .ref b23, .ref b24, .ref b25, .ref b26, .int 0, .ref b28, .ref b29, .ref b30, .ref b31, .ref b32, .ref b33, .ref b34, .ref b35, .ref b36, .int 0, .int 0, .int 0, .int 0, .int 0, .int 0, .int 0, .int 0, .int 0, .ref b46, .ref b47, .ref b48, .ref b49, .ref b50, .ref b51, .ref b52, .ref b53, .ref b54, .ref b55, .ref b56, .ref b57, .ref b58, .ref b59, .ref b60, .ref b61, .ref b62, .ref b63])), (b60, .inl (g.2.1 2, 16, .inr (.inl (lf (chL n kw x 3 (fr + 1) ca (chO (fun o l => chL n kw x 3 (fr + 1) (if kw / 2 ^ fr % 2 = 1 then ca ||| 2 ^ o else ca) l) fr o la))))))] := hW
            have hst : chO (fun o l => chL n kw x 3 (fr + 1) (if kw / 2 ^ fr % 2 = 1 then ca ||| 2 ^ o else ca) l) fr (o + 1) la = chL n kw x 3 (fr + 1) ca (chO (fun o l => chL n kw x 3 (fr + 1) (if kw / 2 ^ fr % 2 = 1 then ca ||| 2 ^ o else ca) l) fr o la) := by
              rw [chO, if_neg hof, if_neg hbit]
            rw [← hst] at hW
            refine lv_iinc (v := nI (o + 1)) (lv' := [(7, .int (nI (o + 1))), (0, .ref h0), (1, .int (nI n)), (2, .int (nI kw)), (3, .int (nI fr)), (4, .int (nI ca)), (5, .long x)]) (pc := 67) hx hb dX12_choose_67 hl (k := 6) rfl (nI_1 o) (by decide) rfl (fun ls hl => ?_)
            refine lv_goto (tgt := 23) (pc := 70) hx hb dX12_choose_70 rfl ?_
            exact ih1 (o + 1) (by omega) (by omega) _ _ _ hW (lv_sub hl [1, 2, 3, 4, 5, 6, 0] rfl)
          · have hbit : kw / 2 ^ fr % 2 = 1 := (nI_eq (by omega) (by decide)).mp c7
            refine lv_iload (pc := 50) hx hb dX12_choose_50 (lv_at hl 4 rfl) ?_
            refine lv_iconst (v := 1) (pc := 52) hx hb dX12_choose_52 (by decide) ?_
            refine lv_iload (pc := 53) hx hb dX12_choose_53 (lv_at hl 6 rfl) ?_
            refine lv_ishl (pc := 55) hx hb dX12_choose_55 ?_
            refine lv_topi (fun v8 ev8 => ?_)
            obtain rfl : v8 = nI (2 ^ o) := ev8.trans (shl_n o (by omega))
            refine lv_ior (pc := 56) hx hb dX12_choose_56 ?_
            refine lv_topi (fun v9 ev9 => ?_)
            obtain rfl : v9 = nI (ca ||| 2 ^ o) := ev9.trans (fa_or _ _)
            refine lv_goto (tgt := 62) (pc := 57) hx hb dX12_choose_57 rfl ?_
            refine lv_lload (pc := 62) hx hb dX12_choose_62 (lv_at hl 5 rfl) ?_
            refine c_Vv (pc := 64) (As := [.int (nI n), .int (nI kw), .int (nI (fr + 1)), .int (nI (ca ||| 2 ^ o)), .long x]) (rest := []) (wr := []) X hW 0 ciX12 rfl (C_choose_3 l g h0 b1 b6 b7 b8 b9 b10 b11 b12 b13 b14 b15 b16 b17 b21 b22 b23 b24 b25 b26 b28 b29 b30 b31 b32 b33 b34 b35 b36 b46 b47 b48 b49 b50 b51 b52 b53 b54 b55 b56 b57 b58 b59 b60 b61 b62 b63 n kw (fr + 1) (ca ||| 2 ^ o) x (chO (fun o l => chL n kw x 3 (fr + 1) (if kw / 2 ^ fr % 2 = 1 then ca ||| 2 ^ o else ca) l) fr o la) hn4 hkw (Nat.or_lt_two_pow (n := 4) hca (p2_4 o (by omega))) (by rw [chO_len fr (fun o l => chL_len n kw x 3 _ _ l), hla]) (by omega)) vX12_388 [0, 1] [] rfl rfl rfl rfl rfl rfl hl.1 rfl (Nat.le_of_ble_eq_true rfl) ⟨Nat.le_of_ble_eq_true rfl, Nat.le_of_ble_eq_true rfl⟩ ⟨Nat.le_of_ble_eq_true rfl, Nat.le_of_ble_eq_true rfl⟩ dX12_choose_64 (fun u9 H locs hq hW => ?_)
            obtain rfl := hq
            have hW : WD g A s _ _ [(h0, .inr (12, [.int 0, .ref b1, .int 0, .int 0, .int 0, .int 0, .ref b6, .ref b7, .ref b8, .ref b9, .ref b10, .ref b11, .ref b12, .ref b13, .ref b14, .ref b15, .ref b16, .ref b17, .int 0, .int (-1), .int (-1), .ref b21, .ref b22, .ref b23, .ref b24, .ref b25, .ref b26, .int 0, .ref b28, .ref b29, .ref b30, .ref b31, .ref b32, .ref b33, .ref b34, .ref b35, .ref b36, .int 0, .int 0, .int 0, .int 0, .int 0, .int 0, .int 0, .int 0, .int 0, .ref b46, .ref b47, .ref b48, .ref b49, .ref b50, .ref b51, .ref b52, .ref b53, .ref b54, .ref b55, .ref b56, .ref b57, .ref b58, .ref b59, .ref b60, .ref b61, .ref b62, .ref b63])), (b60, .inl (g.2.1 2, 16, .inr (.inl (lf (chL n kw x 3 (fr + 1) (ca ||| 2 ^ o) (chO (fun o l => chL n kw x 3 (fr + 1) (if kw / 2 ^ fr % 2 = 1 then ca ||| 2 ^ o else ca) l) fr o la))))))] := hW
            have hst : chO (fun o l => chL n kw x 3 (fr + 1) (if kw / 2 ^ fr % 2 = 1 then ca ||| 2 ^ o else ca) l) fr (o + 1) la = chL n kw x 3 (fr + 1) (ca ||| 2 ^ o) (chO (fun o l => chL n kw x 3 (fr + 1) (if kw / 2 ^ fr % 2 = 1 then ca ||| 2 ^ o else ca) l) fr o la) := by
              rw [chO, if_neg hof, if_pos hbit]
            rw [← hst] at hW
            refine lv_iinc (v := nI (o + 1)) (lv' := [(7, .int (nI (o + 1))), (0, .ref h0), (1, .int (nI n)), (2, .int (nI kw)), (3, .int (nI fr)), (4, .int (nI ca)), (5, .long x)]) (pc := 67) hx hb dX12_choose_67 hl (k := 6) rfl (nI_1 o) (by decide) rfl (fun ls hl => ?_)
            refine lv_goto (tgt := 23) (pc := 70) hx hb dX12_choose_70 rfl ?_
            exact ih1 (o + 1) (by omega) (by omega) _ _ _ hW (lv_sub hl [1, 2, 3, 4, 5, 6, 0] rfl)
  exact loop1 (n + 1) 0 (by omega) (by omega) _ _ _ hW (lv_sub hl [1, 2, 3, 4, 5, 6, 0] rfl)

set_option maxHeartbeats 4000000 in
set_option maxRecDepth 100000 in
theorem C_X12_ways (l : Launch) (g : GG) (h0 b1 b6 b7 b8 b9 b10 b11 b12 b13 b14 b15 b16 b17 b21 b22 b23 b24 b25 b26 b28 b29 b30 b31 b32 b33 b34 b35 b36 b46 b47 b48 b49 b50 b51 b52 b53 b54 b55 b56 b57 b58 b59 b60 b61 b62 b63 : Nat) (p0 p1 p2 : Int32) : MetL l g yX12_ways cX12_ways 7 (some .long) 5 0 0 [.ref h0, .int p0, .int p1, .int p2] [(h0, .inr (12, [.int 0, .ref b1, .int 0, .int 0, .int 0, .int 0, .ref b6, .ref b7, .ref b8, .ref b9, .ref b10, .ref b11, .ref b12, .ref b13, .ref b14, .ref b15, .ref b16, .ref b17, .int 0, .int (-1), .int (-1), .ref b21, .ref b22, .ref b23, .ref b24, .ref b25, .ref b26, .int 0, .ref b28, .ref b29, .ref b30, .ref b31, .ref b32, .ref b33, .ref b34, .ref b35, .ref b36, .int 0, .int 0, .int 0, .int 0, .int 0, .int 0, .int 0, .int 0, .int 0, .ref b46, .ref b47, .ref b48, .ref b49, .ref b50, .ref b51, .ref b52, .ref b53, .ref b54, .ref b55, .ref b56, .ref b57, .ref b58, .ref b59, .ref b60, .ref b61, .ref b62, .ref b63])), (b59, .inl (g.2.1 2, 16, .inr (.inl (fun _ => 0)))), (b60, .inl (g.2.1 2, 16, .inr (.inl (fun _ => 0))))] (fun r u => r = wv p0 p1 p2 ∧ u = []) := by
  refine MetL.of (own := RX12) rfl (by decide) (Nat.le_of_ble_eq_true rfl) ?_
  intro p e s m below meth c A ls args Q hQ X hr hin hW hl
  have hx := X.1
  have hb := X.2.1
  have hl : lv_has ls 7 [(0, .ref h0), (1, .int p0), (2, .int p1), (3, .int p2)] := hl
  refine lv_aload_n (pc := 0) hx hb dX12_ways_0 rfl (lv_at hl 0 rfl) ?_
  refine lv_iconst (v := 0) (pc := 1) hx hb dX12_ways_1 (by decide) ?_
  refine r_put (ws' := [(h0, .inr (12, [.int 0, .ref b1, .int 0, .int 0, .int 0, .int 0, .ref b6, .ref b7, .ref b8, .ref b9, .ref b10, .ref b11, .ref b12, .ref b13, .ref b14, .ref b15, .ref b16, .ref b17, .int 0, .int (-1), .int (-1), .ref b21, .ref b22, .ref b23, .ref b24, .ref b25, .ref b26, .int 0, .ref b28, .ref b29, .ref b30, .ref b31, .ref b32, .ref b33, .ref b34, .ref b35, .ref b36, .int 0, .int 0, .int 0, .int 0, .int 0, .int 0, .int 0, .int 0, .int 0, .ref b46, .ref b47, .ref b48, .ref b49, .ref b50, .ref b51, .ref b52, .ref b53, .ref b54, .ref b55, .ref b56, .ref b57, .ref b58, .ref b59, .ref b60, .ref b61, .ref b62, .ref b63])), (b59, .inl (g.2.1 2, 16, .inr (.inl (fun _ => 0)))), (b60, .inl (g.2.1 2, 16, .inr (.inl (fun _ => 0))))]) X hW 0 ciX12 0 rfl (by decide) m_1231 rfl rfl rfl rfl (Nat.le_of_ble_eq_true rfl) rfl dX12_ways_2 (fun H locs hW => ?_)
  refine lv_iload_n (pc := 5) hx hb dX12_ways_5 rfl (lv_at hl 1 rfl) ?_
  refine lv_iconst (v := 2) (pc := 6) hx hb dX12_ways_6 (by decide) ?_
  refine lv_iconst (v := 4) (pc := 7) hx hb dX12_ways_7 (by decide) ?_
  refine c_Si (pc := 8) (As := [.int p0, .int 2, .int 4]) (rest := []) (wr := [(h0, .inr (12, [.int 0, .ref b1, .int 0, .int 0, .int 0, .int 0, .ref b6, .ref b7, .ref b8, .ref b9, .ref b10, .ref b11, .ref b12, .ref b13, .ref b14, .ref b15, .ref b16, .ref b17, .int 0, .int (-1), .int (-1), .ref b21, .ref b22, .ref b23, .ref b24, .ref b25, .ref b26, .int 0, .ref b28, .ref b29, .ref b30, .ref b31, .ref b32, .ref b33, .ref b34, .ref b35, .ref b36, .int 0, .int 0, .int 0, .int 0, .int 0, .int 0, .int 0, .int 0, .int 0, .ref b46, .ref b47, .ref b48, .ref b49, .ref b50, .ref b51, .ref b52, .ref b53, .ref b54, .ref b55, .ref b56, .ref b57, .ref b58, .ref b59, .ref b60, .ref b61, .ref b62, .ref b63])), (b59, .inl (g.2.1 2, 16, .inr (.inl (fun _ => 0)))), (b60, .inl (g.2.1 2, 16, .inr (.inl (fun _ => 0))))]) X hW (C_X12_isIn l g p0 2 4) vX12_198 [] [0, 1, 2] rfl rfl rfl rfl rfl rfl hl.1 rfl (Nat.le_of_ble_eq_true rfl) ⟨Nat.le_of_ble_eq_true rfl, Nat.le_of_ble_eq_true rfl⟩ ⟨Nat.le_of_ble_eq_true rfl, Nat.le_of_ble_eq_true rfl⟩ dX12_ways_8 (fun r1 u9 H locs hq hW => ?_)
  obtain ⟨rfl, rfl⟩ := hq
  have hW : WD g A s _ _ [(h0, .inr (12, [.int 0, .ref b1, .int 0, .int 0, .int 0, .int 0, .ref b6, .ref b7, .ref b8, .ref b9, .ref b10, .ref b11, .ref b12, .ref b13, .ref b14, .ref b15, .ref b16, .ref b17, .int 0, .int (-1), .int (-1), .ref b21, .ref b22, .ref b23, .ref b24, .ref b25, .ref b26, .int 0, .ref b28, .ref b29, .ref b30, .ref b31, .ref b32, .ref b33, .ref b34, .ref b35, .ref b36, .int 0, .int 0, .int 0, .int 0, .int 0, .int 0, .int 0, .int 0, .int 0, .ref b46, .ref b47, .ref b48, .ref b49, .ref b50, .ref b51, .ref b52, .ref b53, .ref b54, .ref b55, .ref b56, .ref b57, .ref b58, .ref b59, .ref b60, .ref b61, .ref b62, .ref b63])), (b59, .inl (g.2.1 2, 16, .inr (.inl (fun _ => 0)))), (b60, .inl (g.2.1 2, 16, .inr (.inl (fun _ => 0))))] := hW
  refine lv_if_eq (tgt := 33) (pc := 11) hx hb dX12_ways_11 rfl (fun c2 => ?_) (fun c2 => ?_)
  · refine lv_ldc2 (pc := 33) hx hb X.2.2.2.1 (X.2.2.2.2.1 _ m_1759) dX12_ways_33 ?_
    exact e_l X hQ hr hW (u := []) [] rfl rfl (⟨(wv_no (fun h9 => by obtain ⟨q1, q2, q3, q4, q5, q6⟩ := h9; rcases inv3_0 c2 with h8 | h8 <;> first | exact q1 h8 | exact q2 h8 | exact q3 h8 | exact q4 h8 | exact q5 h8 | exact q6 h8)).symm, rfl⟩) ⟨Nat.le_of_ble_eq_true rfl, Nat.le_of_ble_eq_true rfl⟩ dX12_ways_36
  · refine lv_iload_n (pc := 14) hx hb dX12_ways_14 rfl (lv_at hl 2 rfl) ?_
    refine lv_iconst (v := 1) (pc := 15) hx hb dX12_ways_15 (by decide) ?_
    refine lv_bipush (v := 8) (pc := 16) hx hb dX12_ways_16 (by decide) ?_
    refine c_Si (pc := 18) (As := [.int p1, .int 1, .int 8]) (rest := []) (wr := [(h0, .inr (12, [.int 0, .ref b1, .int 0, .int 0, .int 0, .int 0, .ref b6, .ref b7, .ref b8, .ref b9, .ref b10, .ref b11, .ref b12, .ref b13, .ref b14, .ref b15, .ref b16, .ref b17, .int 0, .int (-1), .int (-1), .ref b21, .ref b22, .ref b23, .ref b24, .ref b25, .ref b26, .int 0, .ref b28, .ref b29, .ref b30, .ref b31, .ref b32, .ref b33, .ref b34, .ref b35, .ref b36, .int 0, .int 0, .int 0, .int 0, .int 0, .int 0, .int 0, .int 0, .int 0, .ref b46, .ref b47, .ref b48, .ref b49, .ref b50, .ref b51, .ref b52, .ref b53, .ref b54, .ref b55, .ref b56, .ref b57, .ref b58, .ref b59, .ref b60, .ref b61, .ref b62, .ref b63])), (b59, .inl (g.2.1 2, 16, .inr (.inl (fun _ => 0)))), (b60, .inl (g.2.1 2, 16, .inr (.inl (fun _ => 0))))]) X hW (C_X12_isIn l g p1 1 8) vX12_198 [] [0, 1, 2] rfl rfl rfl rfl rfl rfl hl.1 rfl (Nat.le_of_ble_eq_true rfl) ⟨Nat.le_of_ble_eq_true rfl, Nat.le_of_ble_eq_true rfl⟩ ⟨Nat.le_of_ble_eq_true rfl, Nat.le_of_ble_eq_true rfl⟩ dX12_ways_18 (fun r3 u9 H locs hq hW => ?_)
    obtain ⟨rfl, rfl⟩ := hq
    have hW : WD g A s _ _ [(h0, .inr (12, [.int 0, .ref b1, .int 0, .int 0, .int 0, .int 0, .ref b6, .ref b7, .ref b8, .ref b9, .ref b10, .ref b11, .ref b12, .ref b13, .ref b14, .ref b15, .ref b16, .ref b17, .int 0, .int (-1), .int (-1), .ref b21, .ref b22, .ref b23, .ref b24, .ref b25, .ref b26, .int 0, .ref b28, .ref b29, .ref b30, .ref b31, .ref b32, .ref b33, .ref b34, .ref b35, .ref b36, .int 0, .int 0, .int 0, .int 0, .int 0, .int 0, .int 0, .int 0, .int 0, .ref b46, .ref b47, .ref b48, .ref b49, .ref b50, .ref b51, .ref b52, .ref b53, .ref b54, .ref b55, .ref b56, .ref b57, .ref b58, .ref b59, .ref b60, .ref b61, .ref b62, .ref b63])), (b59, .inl (g.2.1 2, 16, .inr (.inl (fun _ => 0)))), (b60, .inl (g.2.1 2, 16, .inr (.inl (fun _ => 0))))] := hW
    refine lv_if_eq (tgt := 33) (pc := 21) hx hb dX12_ways_21 rfl (fun c4 => ?_) (fun c4 => ?_)
    · refine lv_ldc2 (pc := 33) hx hb X.2.2.2.1 (X.2.2.2.2.1 _ m_1759) dX12_ways_33 ?_
      exact e_l X hQ hr hW (u := []) [] rfl rfl (⟨(wv_no (fun h9 => by obtain ⟨q1, q2, q3, q4, q5, q6⟩ := h9; rcases inv3_0 c4 with h8 | h8 <;> first | exact q1 h8 | exact q2 h8 | exact q3 h8 | exact q4 h8 | exact q5 h8 | exact q6 h8)).symm, rfl⟩) ⟨Nat.le_of_ble_eq_true rfl, Nat.le_of_ble_eq_true rfl⟩ dX12_ways_36
    · refine lv_iload_n (pc := 24) hx hb dX12_ways_24 rfl (lv_at hl 3 rfl) ?_
      refine lv_iconst (v := 1) (pc := 25) hx hb dX12_ways_25 (by decide) ?_
      refine lv_iload_n (pc := 26) hx hb dX12_ways_26 rfl (lv_at hl 1 rfl) ?_
      refine c_Si (pc := 27) (As := [.int p2, .int 1, .int p0]) (rest := []) (wr := [(h0, .inr (12, [.int 0, .ref b1, .int 0, .int 0, .int 0, .int 0, .ref b6, .ref b7, .ref b8, .ref b9, .ref b10, .ref b11, .ref b12, .ref b13, .ref b14, .ref b15, .ref b16, .ref b17, .int 0, .int (-1), .int (-1), .ref b21, .ref b22, .ref b23, .ref b24, .ref b25, .ref b26, .int 0, .ref b28, .ref b29, .ref b30, .ref b31, .ref b32, .ref b33, .ref b34, .ref b35, .ref b36, .int 0, .int 0, .int 0, .int 0, .int 0, .int 0, .int 0, .int 0, .int 0, .ref b46, .ref b47, .ref b48, .ref b49, .ref b50, .ref b51, .ref b52, .ref b53, .ref b54, .ref b55, .ref b56, .ref b57, .ref b58, .ref b59, .ref b60, .ref b61, .ref b62, .ref b63])), (b59, .inl (g.2.1 2, 16, .inr (.inl (fun _ => 0)))), (b60, .inl (g.2.1 2, 16, .inr (.inl (fun _ => 0))))]) X hW (C_X12_isIn l g p2 1 p0) vX12_198 [] [0, 1, 2] rfl rfl rfl rfl rfl rfl hl.1 rfl (Nat.le_of_ble_eq_true rfl) ⟨Nat.le_of_ble_eq_true rfl, Nat.le_of_ble_eq_true rfl⟩ ⟨Nat.le_of_ble_eq_true rfl, Nat.le_of_ble_eq_true rfl⟩ dX12_ways_27 (fun r5 u9 H locs hq hW => ?_)
      obtain ⟨rfl, rfl⟩ := hq
      have hW : WD g A s _ _ [(h0, .inr (12, [.int 0, .ref b1, .int 0, .int 0, .int 0, .int 0, .ref b6, .ref b7, .ref b8, .ref b9, .ref b10, .ref b11, .ref b12, .ref b13, .ref b14, .ref b15, .ref b16, .ref b17, .int 0, .int (-1), .int (-1), .ref b21, .ref b22, .ref b23, .ref b24, .ref b25, .ref b26, .int 0, .ref b28, .ref b29, .ref b30, .ref b31, .ref b32, .ref b33, .ref b34, .ref b35, .ref b36, .int 0, .int 0, .int 0, .int 0, .int 0, .int 0, .int 0, .int 0, .int 0, .ref b46, .ref b47, .ref b48, .ref b49, .ref b50, .ref b51, .ref b52, .ref b53, .ref b54, .ref b55, .ref b56, .ref b57, .ref b58, .ref b59, .ref b60, .ref b61, .ref b62, .ref b63])), (b59, .inl (g.2.1 2, 16, .inr (.inl (fun _ => 0)))), (b60, .inl (g.2.1 2, 16, .inr (.inl (fun _ => 0))))] := hW
      refine lv_if_ne (tgt := 37) (pc := 30) hx hb dX12_ways_30 rfl (fun c6 => ?_) (fun c6 => ?_)
      · have hok : wOk p0 p1 p2 := by
          have q1 := inv3_1 c2; have q2 := inv3_1 c4; have q3 := inv3_1 c6
          exact ⟨q1.1, q1.2, q2.1, q2.2, q3.1, q3.2⟩
        obtain ⟨n, h, k, hn, hn4, hh1, hh, hk1, hk, rfl, rfl, rfl, hwv⟩ := w_ok hok
        rw [z16_fn] at hW
        rcases (show n = 2 ∨ n = 3 ∨ n = 4 by omega) with rfl | rfl | rfl
        · refine lv_iconst (v := 0) (pc := 37) hx hb dX12_ways_37 (by decide) ?_
          refine lv_istore (lv' := [(4, .int 0), (0, .ref h0), (1, .int (nI 2)), (2, .int (nI h)), (3, .int (nI k))]) (pc := 38) hx hb dX12_ways_38 hl (by decide) rfl (fun ls hl => ?_)
          have loop1 : ∀ (fu : Nat) (i : Nat), (16 < fu + i) → (i ≤ 16) → ∀ (H : Heap) (locs : List Loc) (ls : Array Slot), WD g A s H locs [(h0, .inr (12, [.int 0, .ref b1, .int 0, .int 0, .int 0, .int 0, .ref b6, .ref b7, .ref b8, .ref b9, .ref b10, .ref b11, .ref b12, .ref b13, .ref b14, .ref b15, .ref b16, .ref b17, .int 0, .int (-1), .int (-1), .ref b21, .ref b22, .ref b23, .ref b24, .ref b25, .ref b26, .int 0, .ref b28, .ref b29, .ref b30, .ref b31, .ref b32, .ref b33, .ref b34, .ref b35, .ref b36, .int 0, .int 0, .int 0, .int 0, .int 0, .int 0, .int 0, .int 0, .int 0, .ref b46, .ref b47, .ref b48, .ref b49, .ref b50, .ref b51, .ref b52, .ref b53, .ref b54, .ref b55, .ref b56, .ref b57, .ref b58, .ref b59, .ref b60, .ref b61, .ref b62, .ref b63])), (b59, .inl (g.2.1 2, 16, .inr (.inl (lf (m0L i))))), (b60, .inl (g.2.1 2, 16, .inr (.inl (lf z16))))] → lv_has ls 7 [(0, .ref h0), (1, .int (nI 2)), (2, .int (nI h)), (3, .int (nI k)), (4, .int (nI i))] → W p l e (RM 5 0 0) s m args below meth c H locs 0 0 Q (F0 m 40 ls []) := by
            intro fu
            induction fu with
            | zero =>
              intro i hm hi
              exact absurd hm (by omega)
            | succ fu ih1 =>
              intro i hm hi H locs ls hW hl
              refine lv_iload (pc := 40) hx hb dX12_ways_40 (lv_at hl 4 rfl) ?_
              refine lv_bipush (v := 16) (pc := 42) hx hb dX12_ways_42 (by decide) ?_
              refine lv_icmp_ge (tgt := 71) (pc := 44) hx hb dX12_ways_44 rfl (fun c7 => ?_) (fun c7 => ?_)
              · have h16 : i = 16 := by have := ge_t (k := 16) (by omega) (by omega) c7; omega
                rw [h16] at hW
                refine lv_iconst (v := 0) (pc := 71) hx hb dX12_ways_71 (by decide) ?_
                refine lv_istore (lv' := [(4, .int 0), (0, .ref h0), (1, .int (nI 2)), (2, .int (nI h)), (3, .int (nI k))]) (pc := 72) hx hb dX12_ways_72 hl (by decide) rfl (fun ls hl => ?_)
                have loop2 : ∀ (fv : Nat) (t : Nat) (ln : List Int64), (h < fv + t) → (t ≤ h) → (ln.length = 16) → ∀ (H : Heap) (locs : List Loc) (ls : Array Slot), WD g A s H locs [(h0, .inr (12, [.int 0, .ref b1, .int 0, .int 0, .int 0, .int 0, .ref b6, .ref b7, .ref b8, .ref b9, .ref b10, .ref b11, .ref b12, .ref b13, .ref b14, .ref b15, .ref b16, .ref b17, .int 0, .int (-1), .int (-1), .ref b21, .ref b22, .ref b23, .ref b24, .ref b25, .ref b26, .int 0, .ref b28, .ref b29, .ref b30, .ref b31, .ref b32, .ref b33, .ref b34, .ref b35, .ref b36, .int 0, .int 0, .int 0, .int 0, .int 0, .int 0, .int 0, .int 0, .int 0, .ref b46, .ref b47, .ref b48, .ref b49, .ref b50, .ref b51, .ref b52, .ref b53, .ref b54, .ref b55, .ref b56, .ref b57, .ref b58, .ref b59, .ref b60, .ref b61, .ref b62, .ref b63])), (b59, .inl (g.2.1 2, 16, .inr (.inl (lf (stM 2 t))))), (b60, .inl (g.2.1 2, 16, .inr (.inl (lf (ln)))))] → lv_has ls 7 [(0, .ref h0), (1, .int (nI 2)), (2, .int (nI h)), (3, .int (nI k)), (4, .int (nI t))] → W p l e (RM 5 0 0) s m args below meth c H locs 0 0 Q (F0 m 74 ls []) := by
                  intro fv
                  induction fv with
                  | zero =>
                    intro t ln hm2 ht hln
                    exact absurd hm2 (by omega)
                  | succ fv ih2 =>
                    intro t ln hm2 ht hln H locs ls hW hl
                    refine lv_iload (pc := 74) hx hb dX12_ways_74 (lv_at hl 4 rfl) ?_
                    refine lv_iload_n (pc := 76) hx hb dX12_ways_76 rfl (lv_at hl 2 rfl) ?_
                    refine lv_icmp_ge (tgt := 185) (pc := 77) hx hb dX12_ways_77 rfl (fun c8 => ?_) (fun c8 => ?_)
                    · have hth : t = h := by have := ge_t (k := h) (by omega) (by omega) c8; omega
                      rw [hth] at hW
                      refine lv_lconst (v := 0) (pc := 185) hx hb dX12_ways_185 (by decide) ?_
                      refine lv_lstore (lv' := [(4, .long 0), (0, .ref h0), (1, .int (nI 2)), (2, .int (nI h)), (3, .int (nI k))]) (pc := 186) hx hb dX12_ways_186 hl (by decide) rfl (fun ls hl => ?_)
                      refine lv_iconst (v := 0) (pc := 188) hx hb dX12_ways_188 (by decide) ?_
                      refine lv_istore (lv' := [(6, .int 0), (4, .long 0), (0, .ref h0), (1, .int (nI 2)), (2, .int (nI h)), (3, .int (nI k))]) (pc := 189) hx hb dX12_ways_189 hl (by decide) rfl (fun ls hl => ?_)
                      have loop6 : ∀ (fx : Nat) (i : Nat), (16 < fx + i) → (i ≤ 16) → ∀ (H : Heap) (locs : List Loc) (ls : Array Slot), WD g A s H locs [(h0, .inr (12, [.int 0, .ref b1, .int 0, .int 0, .int 0, .int 0, .ref b6, .ref b7, .ref b8, .ref b9, .ref b10, .ref b11, .ref b12, .ref b13, .ref b14, .ref b15, .ref b16, .ref b17, .int 0, .int (-1), .int (-1), .ref b21, .ref b22, .ref b23, .ref b24, .ref b25, .ref b26, .int 0, .ref b28, .ref b29, .ref b30, .ref b31, .ref b32, .ref b33, .ref b34, .ref b35, .ref b36, .int 0, .int 0, .int 0, .int 0, .int 0, .int 0, .int 0, .int 0, .int 0, .ref b46, .ref b47, .ref b48, .ref b49, .ref b50, .ref b51, .ref b52, .ref b53, .ref b54, .ref b55, .ref b56, .ref b57, .ref b58, .ref b59, .ref b60, .ref b61, .ref b62, .ref b63])), (b59, .inl (g.2.1 2, 16, .inr (.inl (lf (stM 2 h))))), (b60, .inl (g.2.1 2, 16, .inr (.inl (lf (ln)))))] → lv_has ls 7 [(0, .ref h0), (1, .int (nI 2)), (2, .int (nI h)), (3, .int (nI k)), (4, .long (smM (stM 2 h) k i)), (6, .int (nI i))] → W p l e (RM 5 0 0) s m args below meth c H locs 0 0 Q (F0 m 191 ls []) := by
                        intro fx
                        induction fx with
                        | zero =>
                          intro i hm6 hi
                          exact absurd hm6 (by omega)
                        | succ fx ih6 =>
                          intro i hm6 hi H locs ls hW hl
                          refine lv_iload (pc := 191) hx hb dX12_ways_191 (lv_at hl 5 rfl) ?_
                          refine lv_bipush (v := 16) (pc := 193) hx hb dX12_ways_193 (by decide) ?_
                          refine lv_icmp_ge (tgt := 229) (pc := 195) hx hb dX12_ways_195 rfl (fun c9 => ?_) (fun c9 => ?_)
                          · have h16 : i = 16 := by have := ge_t (k := 16) (by omega) (by omega) c9; omega
                            refine lv_lload (pc := 229) hx hb dX12_ways_229 (lv_at hl 4 rfl) ?_
                            exact e_l X hQ hr hW (u := []) [] rfl rfl (⟨by rw [h16, hwv]; exact fin_w (by decide) (by decide) hh1 hh hk1 hk, rfl⟩) ⟨Nat.le_of_ble_eq_true rfl, Nat.le_of_ble_eq_true rfl⟩ dX12_ways_231
                          · have hli : i < 16 := ge_f (k := 16) (by omega) (by omega) c9
                            have hp4 := pop4_le i hli
                            refine lv_lload (pc := 198) hx hb dX12_ways_198 (lv_at hl 4 rfl) ?_
                            refine lv_iload (pc := 200) hx hb dX12_ways_200 (lv_at hl 5 rfl) ?_
                            refine c_Si (pc := 202) (As := [.int (nI i)]) (rest := [.long (smM (stM 2 h) k i)]) (wr := [(h0, .inr (12, [.int 0, .ref b1, .int 0, .int 0, .int 0, .int 0, .ref b6, .ref b7, .ref b8, .ref b9, .ref b10, .ref b11, .ref b12, .ref b13, .ref b14, .ref b15, .ref b16, .ref b17, .int 0, .int (-1), .int (-1), .ref b21, .ref b22, .ref b23, .ref b24, .ref b25, .ref b26, .int 0, .ref b28, .ref b29, .ref b30, .ref b31, .ref b32, .ref b33, .ref b34, .ref b35, .ref b36, .int 0, .int 0, .int 0, .int 0, .int 0, .int 0, .int 0, .int 0, .int 0, .ref b46, .ref b47, .ref b48, .ref b49, .ref b50, .ref b51, .ref b52, .ref b53, .ref b54, .ref b55, .ref b56, .ref b57, .ref b58, .ref b59, .ref b60, .ref b61, .ref b62, .ref b63])), (b59, .inl (g.2.1 2, 16, .inr (.inl (lf (stM 2 h))))), (b60, .inl (g.2.1 2, 16, .inr (.inl (lf (ln)))))]) X hW (C_J6_bitCount_0f7a4 l g (nI i)) vX12_334 [] [0, 1, 2] rfl rfl rfl rfl rfl rfl hl.1 rfl (Nat.le_of_ble_eq_true rfl) ⟨Nat.le_of_ble_eq_true rfl, Nat.le_of_ble_eq_true rfl⟩ ⟨Nat.le_of_ble_eq_true rfl, Nat.le_of_ble_eq_true rfl⟩ dX12_ways_202 (fun r10 u9 H locs hq hW => ?_)
                            obtain ⟨hr9, rfl⟩ := hq
                            obtain rfl : r10 = nI (pop4 i) := hr9.trans (bc_n _ (by omega))
                            have hW : WD g A s _ _ [(h0, .inr (12, [.int 0, .ref b1, .int 0, .int 0, .int 0, .int 0, .ref b6, .ref b7, .ref b8, .ref b9, .ref b10, .ref b11, .ref b12, .ref b13, .ref b14, .ref b15, .ref b16, .ref b17, .int 0, .int (-1), .int (-1), .ref b21, .ref b22, .ref b23, .ref b24, .ref b25, .ref b26, .int 0, .ref b28, .ref b29, .ref b30, .ref b31, .ref b32, .ref b33, .ref b34, .ref b35, .ref b36, .int 0, .int 0, .int 0, .int 0, .int 0, .int 0, .int 0, .int 0, .int 0, .ref b46, .ref b47, .ref b48, .ref b49, .ref b50, .ref b51, .ref b52, .ref b53, .ref b54, .ref b55, .ref b56, .ref b57, .ref b58, .ref b59, .ref b60, .ref b61, .ref b62, .ref b63])), (b59, .inl (g.2.1 2, 16, .inr (.inl (lf (stM 2 h))))), (b60, .inl (g.2.1 2, 16, .inr (.inl (lf (ln)))))] := hW
                            refine lv_iload_n (pc := 205) hx hb dX12_ways_205 rfl (lv_at hl 3 rfl) ?_
                            refine lv_icmp_ne (tgt := 219) (pc := 206) hx hb dX12_ways_206 rfl (fun c11 => ?_) (fun c11 => ?_)
                            · have hpk : ¬ pop4 i = k := fun q => c11 (congrArg nI q)
                              refine lv_lconst (v := 0) (pc := 219) hx hb dX12_ways_219 (by decide) ?_
                              refine lv_ladd (pc := 220) hx hb dX12_ways_220 ?_
                              refine lv_topl (fun v12 ev12 => ?_)
                              obtain rfl : v12 = smM (stM 2 h) k (i + 1) := ev12.trans (by rw [smM, if_neg hpk])
                              refine lv_lstore (lv' := [(4, .long (smM (stM 2 h) k (i + 1))), (0, .ref h0), (1, .int (nI 2)), (2, .int (nI h)), (3, .int (nI k)), (6, .int (nI i))]) (pc := 221) hx hb dX12_ways_221 hl (by decide) rfl (fun ls hl => ?_)
                              refine lv_iinc (v := nI (i + 1)) (lv' := [(6, .int (nI (i + 1))), (4, .long (smM (stM 2 h) k (i + 1))), (0, .ref h0), (1, .int (nI 2)), (2, .int (nI h)), (3, .int (nI k))]) (pc := 223) hx hb dX12_ways_223 hl (k := 5) rfl (nI_1 i) (by decide) rfl (fun ls hl => ?_)
                              refine lv_goto (tgt := 191) (pc := 226) hx hb dX12_ways_226 rfl ?_
                              exact ih6 (i + 1) (by omega) (by omega) _ _ _ hW (lv_sub hl [2, 3, 4, 5, 1, 0] rfl)
                            · have hpk : pop4 i = k := (nI_eq (by omega) (by omega)).mp c11
                              refine lv_aload_n (pc := 209) hx hb dX12_ways_209 rfl (lv_at hl 0 rfl) ?_
                              refine r_get X hW 0 ciX12 59 rfl (by decide) m_1286 rfl rfl dX12_ways_210 ?_
                              refine lv_iload (pc := 213) hx hb dX12_ways_213 (lv_at hl 5 rfl) ?_
                              refine r_lald X hW 1 rfl (vp_in_nI (by omega) (by decide)) dX12_ways_215 ?_
                              refine lv_topl (fun v13 ev13 => ?_)
                              obtain rfl : v13 = (stM 2 h).getD i 0 := ev13.trans (by rw [nI_clamp (by omega)])
                              refine lv_goto (tgt := 220) (pc := 216) hx hb dX12_ways_216 rfl ?_
                              refine lv_ladd (pc := 220) hx hb dX12_ways_220 ?_
                              refine lv_topl (fun v14 ev14 => ?_)
                              obtain rfl : v14 = smM (stM 2 h) k (i + 1) := ev14.trans (by rw [smM, if_pos hpk])
                              refine lv_lstore (lv' := [(4, .long (smM (stM 2 h) k (i + 1))), (0, .ref h0), (1, .int (nI 2)), (2, .int (nI h)), (3, .int (nI k)), (6, .int (nI i))]) (pc := 221) hx hb dX12_ways_221 hl (by decide) rfl (fun ls hl => ?_)
                              refine lv_iinc (v := nI (i + 1)) (lv' := [(6, .int (nI (i + 1))), (4, .long (smM (stM 2 h) k (i + 1))), (0, .ref h0), (1, .int (nI 2)), (2, .int (nI h)), (3, .int (nI k))]) (pc := 223) hx hb dX12_ways_223 hl (k := 5) rfl (nI_1 i) (by decide) rfl (fun ls hl => ?_)
                              refine lv_goto (tgt := 191) (pc := 226) hx hb dX12_ways_226 rfl ?_
                              exact ih6 (i + 1) (by omega) (by omega) _ _ _ hW (lv_sub hl [2, 3, 4, 5, 1, 0] rfl)
                      exact loop6 17 0 (by omega) (by omega) _ _ _ hW (lv_sub hl [2, 3, 4, 5, 1, 0] rfl)
                    · have hlt : t < h := ge_f (k := h) (by omega) (by omega) c8
                      refine lv_iconst (v := 0) (pc := 80) hx hb dX12_ways_80 (by decide) ?_
                      refine lv_istore (lv' := [(5, .int 0), (0, .ref h0), (1, .int (nI 2)), (2, .int (nI h)), (3, .int (nI k)), (4, .int (nI t))]) (pc := 81) hx hb dX12_ways_81 hl (by decide) rfl (fun ls hl => ?_)
                      have loop3 : ∀ (fx : Nat) (i : Nat), (16 < fx + i) → (i ≤ 16) → ∀ (H : Heap) (locs : List Loc) (ls : Array Slot), WD g A s H locs [(h0, .inr (12, [.int 0, .ref b1, .int 0, .int 0, .int 0, .int 0, .ref b6, .ref b7, .ref b8, .ref b9, .ref b10, .ref b11, .ref b12, .ref b13, .ref b14, .ref b15, .ref b16, .ref b17, .int 0, .int (-1), .int (-1), .ref b21, .ref b22, .ref b23, .ref b24, .ref b25, .ref b26, .int 0, .ref b28, .ref b29, .ref b30, .ref b31, .ref b32, .ref b33, .ref b34, .ref b35, .ref b36, .int 0, .int 0, .int 0, .int 0, .int 0, .int 0, .int 0, .int 0, .int 0, .ref b46, .ref b47, .ref b48, .ref b49, .ref b50, .ref b51, .ref b52, .ref b53, .ref b54, .ref b55, .ref b56, .ref b57, .ref b58, .ref b59, .ref b60, .ref b61, .ref b62, .ref b63])), (b59, .inl (g.2.1 2, 16, .inr (.inl (lf (stM 2 t))))), (b60, .inl (g.2.1 2, 16, .inr (.inl (lf (cpL ln z16 i)))))] → lv_has ls 7 [(0, .ref h0), (1, .int (nI 2)), (2, .int (nI h)), (3, .int (nI k)), (4, .int (nI t)), (5, .int (nI i))] → W p l e (RM 5 0 0) s m args below meth c H locs 0 0 Q (F0 m 83 ls []) := by
                        intro fx
                        induction fx with
                        | zero =>
                          intro i hm3 hi
                          exact absurd hm3 (by omega)
                        | succ fx ih3 =>
                          intro i hm3 hi H locs ls hW hl
                          refine lv_iload (pc := 83) hx hb dX12_ways_83 (lv_at hl 5 rfl) ?_
                          refine lv_bipush (v := 16) (pc := 85) hx hb dX12_ways_85 (by decide) ?_
                          refine lv_icmp_ge (tgt := 104) (pc := 87) hx hb dX12_ways_87 rfl (fun c15 => ?_) (fun c15 => ?_)
                          · have h16 : i = 16 := by have := ge_t (k := 16) (by omega) (by omega) c15; omega
                            rw [h16, cpL_all hln rfl] at hW
                            refine lv_iconst (v := 0) (pc := 104) hx hb dX12_ways_104 (by decide) ?_
                            refine lv_istore (lv' := [(5, .int 0), (0, .ref h0), (1, .int (nI 2)), (2, .int (nI h)), (3, .int (nI k)), (4, .int (nI t))]) (pc := 105) hx hb dX12_ways_105 hl (by decide) rfl (fun ls hl => ?_)
                            have loop4 : ∀ (fx : Nat) (q : Nat), (4 < fx + q) → (q ≤ 4) → ∀ (H : Heap) (locs : List Loc) (ls : Array Slot), WD g A s H locs [(h0, .inr (12, [.int 0, .ref b1, .int 0, .int 0, .int 0, .int 0, .ref b6, .ref b7, .ref b8, .ref b9, .ref b10, .ref b11, .ref b12, .ref b13, .ref b14, .ref b15, .ref b16, .ref b17, .int 0, .int (-1), .int (-1), .ref b21, .ref b22, .ref b23, .ref b24, .ref b25, .ref b26, .int 0, .ref b28, .ref b29, .ref b30, .ref b31, .ref b32, .ref b33, .ref b34, .ref b35, .ref b36, .int 0, .int 0, .int 0, .int 0, .int 0, .int 0, .int 0, .int 0, .int 0, .ref b46, .ref b47, .ref b48, .ref b49, .ref b50, .ref b51, .ref b52, .ref b53, .ref b54, .ref b55, .ref b56, .ref b57, .ref b58, .ref b59, .ref b60, .ref b61, .ref b62, .ref b63])), (b59, .inl (g.2.1 2, 16, .inr (.inl (lf (stM 2 t))))), (b60, .inl (g.2.1 2, 16, .inr (.inl (lf (seL 2 (stM 2 t) q)))))] → lv_has ls 7 [(0, .ref h0), (1, .int (nI 2)), (2, .int (nI h)), (3, .int (nI k)), (4, .int (nI t)), (5, .int (nI q))] → W p l e (RM 5 0 0) s m args below meth c H locs 0 0 Q (F0 m 107 ls []) := by
                              intro fx
                              induction fx with
                              | zero =>
                                intro q hm4 hq
                                exact absurd hm4 (by omega)
                              | succ fx ih4 =>
                                intro q hm4 hq H locs ls hW hl
                                refine lv_iload (pc := 107) hx hb dX12_ways_107 (lv_at hl 5 rfl) ?_
                                refine lv_iconst (v := 1) (pc := 109) hx hb dX12_ways_109 (by decide) ?_
                                refine lv_iload_n (pc := 110) hx hb dX12_ways_110 rfl (lv_at hl 1 rfl) ?_
                                refine lv_ishl (pc := 111) hx hb dX12_ways_111 ?_
                                refine lv_topi (fun v16 ev16 => ?_)
                                obtain rfl : v16 = nI 4 := ev16.trans (by decide +kernel)
                                refine lv_icmp_ge (tgt := 149) (pc := 112) hx hb dX12_ways_112 rfl (fun c17 => ?_) (fun c17 => ?_)
                                · have hqe : q = 4 := by have := ge_t (k := 4) (by omega) (by omega) c17; omega
                                  rw [hqe] at hW
                                  have hW : WD g A s _ _ [(h0, .inr (12, [.int 0, .ref b1, .int 0, .int 0, .int 0, .int 0, .ref b6, .ref b7, .ref b8, .ref b9, .ref b10, .ref b11, .ref b12, .ref b13, .ref b14, .ref b15, .ref b16, .ref b17, .int 0, .int (-1), .int (-1), .ref b21, .ref b22, .ref b23, .ref b24, .ref b25, .ref b26, .int 0, .ref b28, .ref b29, .ref b30, .ref b31, .ref b32, .ref b33, .ref b34, .ref b35, .ref b36, .int 0, .int 0, .int 0, .int 0, .int 0, .int 0, .int 0, .int 0, .int 0, .ref b46, .ref b47, .ref b48, .ref b49, .ref b50, .ref b51, .ref b52, .ref b53, .ref b54, .ref b55, .ref b56, .ref b57, .ref b58, .ref b59, .ref b60, .ref b61, .ref b62, .ref b63])), (b59, .inl (g.2.1 2, 16, .inr (.inl (lf (stM 2 t))))), (b60, .inl (g.2.1 2, 16, .inr (.inl (lf (stM 2 (t + 1))))))] := hW
                                  refine lv_iconst (v := 0) (pc := 149) hx hb dX12_ways_149 (by decide) ?_
                                  refine lv_istore (lv' := [(5, .int 0), (0, .ref h0), (1, .int (nI 2)), (2, .int (nI h)), (3, .int (nI k)), (4, .int (nI t))]) (pc := 150) hx hb dX12_ways_150 hl (by decide) rfl (fun ls hl => ?_)
                                  have loop5 : ∀ (fx : Nat) (i : Nat), (16 < fx + i) → (i ≤ 16) → ∀ (H : Heap) (locs : List Loc) (ls : Array Slot), WD g A s H locs [(h0, .inr (12, [.int 0, .ref b1, .int 0, .int 0, .int 0, .int 0, .ref b6, .ref b7, .ref b8, .ref b9, .ref b10, .ref b11, .ref b12, .ref b13, .ref b14, .ref b15, .ref b16, .ref b17, .int 0, .int (-1), .int (-1), .ref b21, .ref b22, .ref b23, .ref b24, .ref b25, .ref b26, .int 0, .ref b28, .ref b29, .ref b30, .ref b31, .ref b32, .ref b33, .ref b34, .ref b35, .ref b36, .int 0, .int 0, .int 0, .int 0, .int 0, .int 0, .int 0, .int 0, .int 0, .ref b46, .ref b47, .ref b48, .ref b49, .ref b50, .ref b51, .ref b52, .ref b53, .ref b54, .ref b55, .ref b56, .ref b57, .ref b58, .ref b59, .ref b60, .ref b61, .ref b62, .ref b63])), (b59, .inl (g.2.1 2, 16, .inr (.inl (lf (cpL (stM 2 t) (stM 2 (t + 1)) i))))), (b60, .inl (g.2.1 2, 16, .inr (.inl (lf (stM 2 (t + 1))))))] → lv_has ls 7 [(0, .ref h0), (1, .int (nI 2)), (2, .int (nI h)), (3, .int (nI k)), (4, .int (nI t)), (5, .int (nI i))] → W p l e (RM 5 0 0) s m args below meth c H locs 0 0 Q (F0 m 152 ls []) := by
                                    intro fx
                                    induction fx with
                                    | zero =>
                                      intro i hm5 hi
                                      exact absurd hm5 (by omega)
                                    | succ fx ih5 =>
                                      intro i hm5 hi H locs ls hW hl
                                      refine lv_iload (pc := 152) hx hb dX12_ways_152 (lv_at hl 5 rfl) ?_
                                      refine lv_bipush (v := 16) (pc := 154) hx hb dX12_ways_154 (by decide) ?_
                                      refine lv_icmp_ge (tgt := 179) (pc := 156) hx hb dX12_ways_156 rfl (fun c18 => ?_) (fun c18 => ?_)
                                      · have h16 : i = 16 := by have := ge_t (k := 16) (by omega) (by omega) c18; omega
                                        rw [h16, cpL_all (stM_len _ _) (stM_len _ _)] at hW
                                        refine lv_iinc (v := nI (t + 1)) (lv' := [(4, .int (nI (t + 1))), (0, .ref h0), (1, .int (nI 2)), (2, .int (nI h)), (3, .int (nI k)), (5, .int (nI i))]) (pc := 179) hx hb dX12_ways_179 hl (k := 4) rfl (nI_1 t) (by decide) rfl (fun ls hl => ?_)
                                        refine lv_goto (tgt := 74) (pc := 182) hx hb dX12_ways_182 rfl ?_
                                        exact ih2 (t + 1) (stM 2 (t + 1)) (by omega) (by omega) (stM_len _ _) _ _ _ hW (lv_sub hl [1, 2, 3, 4, 0] rfl)
                                      · have hli : i < 16 := ge_f (k := 16) (by omega) (by omega) c18
                                        refine lv_aload_n (pc := 159) hx hb dX12_ways_159 rfl (lv_at hl 0 rfl) ?_
                                        refine r_get X hW 0 ciX12 59 rfl (by decide) m_1286 rfl rfl dX12_ways_160 ?_
                                        refine lv_iload (pc := 163) hx hb dX12_ways_163 (lv_at hl 5 rfl) ?_
                                        refine lv_aload_n (pc := 165) hx hb dX12_ways_165 rfl (lv_at hl 0 rfl) ?_
                                        refine r_get X hW 0 ciX12 60 rfl (by decide) m_1287 rfl rfl dX12_ways_166 ?_
                                        refine lv_iload (pc := 169) hx hb dX12_ways_169 (lv_at hl 5 rfl) ?_
                                        refine r_lald X hW 2 rfl (vp_in_nI (by omega) (by decide)) dX12_ways_171 ?_
                                        refine lv_topl (fun v19 ev19 => ?_)
                                        obtain rfl : v19 = (stM 2 (t + 1)).getD i 0 := ev19.trans (by rw [nI_clamp (by omega)])
                                        obtain ⟨f20, ef20⟩ : ∃ fz : Nat → Int64, vp_updL (lf (cpL (stM 2 t) (stM 2 (t + 1)) i)) (nI i).toNatClampNeg ((stM 2 (t + 1)).getD i 0) = fz := ⟨_, rfl⟩
                                        refine r_last (ws' := [(h0, .inr (12, [.int 0, .ref b1, .int 0, .int 0, .int 0, .int 0, .ref b6, .ref b7, .ref b8, .ref b9, .ref b10, .ref b11, .ref b12, .ref b13, .ref b14, .ref b15, .ref b16, .ref b17, .int 0, .int (-1), .int (-1), .ref b21, .ref b22, .ref b23, .ref b24, .ref b25, .ref b26, .int 0, .ref b28, .ref b29, .ref b30, .ref b31, .ref b32, .ref b33, .ref b34, .ref b35, .ref b36, .int 0, .int 0, .int 0, .int 0, .int 0, .int 0, .int 0, .int 0, .int 0, .ref b46, .ref b47, .ref b48, .ref b49, .ref b50, .ref b51, .ref b52, .ref b53, .ref b54, .ref b55, .ref b56, .ref b57, .ref b58, .ref b59, .ref b60, .ref b61, .ref b62, .ref b63])), (b59, .inl (g.2.1 2, 16, .inr (.inl f20))), (b60, .inl (g.2.1 2, 16, .inr (.inl (lf (stM 2 (t + 1))))))]) X hW 1 rfl (vp_in_nI (by omega) (by decide)) ef20 rfl dX12_ways_172 (fun H locs hW => ?_)
                                        refine lv_iinc (v := nI (i + 1)) (lv' := [(5, .int (nI (i + 1))), (0, .ref h0), (1, .int (nI 2)), (2, .int (nI h)), (3, .int (nI k)), (4, .int (nI t))]) (pc := 173) hx hb dX12_ways_173 hl (k := 5) rfl (nI_1 i) (by decide) rfl (fun ls hl => ?_)
                                        refine lv_goto (tgt := 152) (pc := 176) hx hb dX12_ways_176 rfl ?_
                                        obtain rfl : f20 = lf (cpL (stM 2 t) (stM 2 (t + 1)) (i + 1)) := ef20.symm.trans (by rw [nI_clamp (by omega)]; exact lf_set (by rw [cpL_len, stM_len]; omega))
                                        exact ih5 (i + 1) (by omega) (by omega) _ _ _ hW (lv_sub hl [1, 2, 3, 4, 5, 0] rfl)
                                  exact loop5 17 0 (by omega) (by omega) _ _ _ hW (lv_sub hl [1, 2, 3, 4, 5, 0] rfl)
                                · have hlq : q < 4 := ge_f (k := 4) (by omega) (by omega) c17
                                  refine lv_aload_n (pc := 115) hx hb dX12_ways_115 rfl (lv_at hl 0 rfl) ?_
                                  refine r_get X hW 0 ciX12 59 rfl (by decide) m_1286 rfl rfl dX12_ways_116 ?_
                                  refine lv_iload (pc := 119) hx hb dX12_ways_119 (lv_at hl 5 rfl) ?_
                                  refine r_lald X hW 1 rfl (vp_in_nI (by omega) (by decide)) dX12_ways_121 ?_
                                  refine lv_topl (fun v21 ev21 => ?_)
                                  obtain rfl : v21 = (stM 2 t).getD q 0 := ev21.trans (by rw [nI_clamp (by omega)])
                                  refine lv_lconst (v := 0) (pc := 122) hx hb dX12_ways_122 (by decide) ?_
                                  refine W.lcmp (pc := 123) hx hb dX12_ways_123 ?_
                                  refine lv_if_le (tgt := 143) (pc := 124) hx hb dX12_ways_124 rfl (fun c22 => ?_) (fun c22 => ?_)
                                  · have hpos := (lg_cmp_le _ _).mp c22
                                    rw [show lf (seL 2 (stM 2 t) q) = lf (seL 2 (stM 2 t) (q + 1)) from congrArg lf (if_pos hpos).symm] at hW
                                    refine lv_iinc (v := nI (q + 1)) (lv' := [(5, .int (nI (q + 1))), (0, .ref h0), (1, .int (nI 2)), (2, .int (nI h)), (3, .int (nI k)), (4, .int (nI t))]) (pc := 143) hx hb dX12_ways_143 hl (k := 5) rfl (nI_1 q) (by decide) rfl (fun ls hl => ?_)
                                    refine lv_goto (tgt := 107) (pc := 146) hx hb dX12_ways_146 rfl ?_
                                    exact ih4 (q + 1) (by omega) (by omega) _ _ _ hW (lv_sub hl [1, 2, 3, 4, 5, 0] rfl)
                                  · have hpos := fun z => c22 ((lg_cmp_le _ _).mpr z)
                                    refine lv_aload_n (pc := 127) hx hb dX12_ways_127 rfl (lv_at hl 0 rfl) ?_
                                    refine lv_iload_n (pc := 128) hx hb dX12_ways_128 rfl (lv_at hl 1 rfl) ?_
                                    refine lv_iload (pc := 129) hx hb dX12_ways_129 (lv_at hl 5 rfl) ?_
                                    refine lv_iconst (v := 0) (pc := 131) hx hb dX12_ways_131 (by decide) ?_
                                    refine lv_iconst (v := 0) (pc := 132) hx hb dX12_ways_132 (by decide) ?_
                                    refine lv_aload_n (pc := 133) hx hb dX12_ways_133 rfl (lv_at hl 0 rfl) ?_
                                    refine r_get X hW 0 ciX12 59 rfl (by decide) m_1286 rfl rfl dX12_ways_134 ?_
                                    refine lv_iload (pc := 137) hx hb dX12_ways_137 (lv_at hl 5 rfl) ?_
                                    refine r_lald X hW 1 rfl (vp_in_nI (by omega) (by decide)) dX12_ways_139 ?_
                                    refine lv_topl (fun v23 ev23 => ?_)
                                    obtain rfl : v23 = (stM 2 t).getD q 0 := ev23.trans (by rw [nI_clamp (by omega)])
                                    refine c_Vv (pc := 140) (As := [.int (nI 2), .int (nI q), .int 0, .int 0, .long ((stM 2 t).getD q 0)]) (rest := []) (wr := [(b59, .inl (g.2.1 2, 16, .inr (.inl (lf (stM 2 t)))))]) X hW 0 ciX12 rfl (C_choose_2 l g h0 b1 b6 b7 b8 b9 b10 b11 b12 b13 b14 b15 b16 b17 b21 b22 b23 b24 b25 b26 b28 b29 b30 b31 b32 b33 b34 b35 b36 b46 b47 b48 b49 b50 b51 b52 b53 b54 b55 b56 b57 b58 b59 b60 b61 b62 b63 2 q 0 0 ((stM 2 t).getD q 0) (seL 2 (stM 2 t) q) (by decide) (by omega) (by decide) (seL_len _ _ _) (by decide)) vX12_388 [0, 2] [1] rfl rfl rfl rfl rfl rfl hl.1 rfl (Nat.le_of_ble_eq_true rfl) ⟨Nat.le_of_ble_eq_true rfl, Nat.le_of_ble_eq_true rfl⟩ ⟨Nat.le_of_ble_eq_true rfl, Nat.le_of_ble_eq_true rfl⟩ dX12_ways_140 (fun u9 H locs hq hW => ?_)
                                    obtain rfl := hq
                                    have hW : WD g A s _ _ [(b59, .inl (g.2.1 2, 16, .inr (.inl (lf (stM 2 t))))), (h0, .inr (12, [.int 0, .ref b1, .int 0, .int 0, .int 0, .int 0, .ref b6, .ref b7, .ref b8, .ref b9, .ref b10, .ref b11, .ref b12, .ref b13, .ref b14, .ref b15, .ref b16, .ref b17, .int 0, .int (-1), .int (-1), .ref b21, .ref b22, .ref b23, .ref b24, .ref b25, .ref b26, .int 0, .ref b28, .ref b29, .ref b30, .ref b31, .ref b32, .ref b33, .ref b34, .ref b35, .ref b36, .int 0, .int 0, .int 0, .int 0, .int 0, .int 0, .int 0, .int 0, .int 0, .ref b46, .ref b47, .ref b48, .ref b49, .ref b50, .ref b51, .ref b52, .ref b53, .ref b54, .ref b55, .ref b56, .ref b57, .ref b58, .ref b59, .ref b60, .ref b61, .ref b62, .ref b63])), (b60, .inl (g.2.1 2, 16, .inr (.inl (lf (chL 2 q ((stM 2 t).getD q 0) 2 0 0 (seL 2 (stM 2 t) q))))))] := hW
                                    rw [show lf (chL 2 q ((stM 2 t).getD q 0) 2 0 0 (seL 2 (stM 2 t) q)) = lf (seL 2 (stM 2 t) (q + 1)) from congrArg lf (if_neg hpos).symm] at hW
                                    refine lv_iinc (v := nI (q + 1)) (lv' := [(5, .int (nI (q + 1))), (0, .ref h0), (1, .int (nI 2)), (2, .int (nI h)), (3, .int (nI k)), (4, .int (nI t))]) (pc := 143) hx hb dX12_ways_143 hl (k := 5) rfl (nI_1 q) (by decide) rfl (fun ls hl => ?_)
                                    refine lv_goto (tgt := 107) (pc := 146) hx hb dX12_ways_146 rfl ?_
                                    have hW : WD g A s _ _ [(h0, .inr (12, [.int 0, .ref b1, .int 0, .int 0, .int 0, .int 0, .ref b6, .ref b7, .ref b8, .ref b9, .ref b10, .ref b11, .ref b12, .ref b13, .ref b14, .ref b15, .ref b16, .ref b17, .int 0, .int (-1), .int (-1), .ref b21, .ref b22, .ref b23, .ref b24, .ref b25, .ref b26, .int 0, .ref b28, .ref b29, .ref b30, .ref b31, .ref b32, .ref b33, .ref b34, .ref b35, .ref b36, .int 0, .int 0, .int 0, .int 0, .int 0, .int 0, .int 0, .int 0, .int 0, .ref b46, .ref b47, .ref b48, .ref b49, .ref b50, .ref b51, .ref b52, .ref b53, .ref b54, .ref b55, .ref b56, .ref b57, .ref b58, .ref b59, .ref b60, .ref b61, .ref b62, .ref b63])), (b59, .inl (g.2.1 2, 16, .inr (.inl (lf (stM 2 t))))), (b60, .inl (g.2.1 2, 16, .inr (.inl (lf (seL 2 (stM 2 t) (q + 1))))))] := hW.pick [1, 0, 2] rfl rfl
                                    exact ih4 (q + 1) (by omega) (by omega) _ _ _ hW (lv_sub hl [1, 2, 3, 4, 5, 0] rfl)
                            exact loop4 5 0 (by omega) (by omega) _ _ _ hW (lv_sub hl [1, 2, 3, 4, 5, 0] rfl)
                          · have hli : i < 16 := ge_f (k := 16) (by omega) (by omega) c15
                            refine lv_aload_n (pc := 90) hx hb dX12_ways_90 rfl (lv_at hl 0 rfl) ?_
                            refine r_get X hW 0 ciX12 60 rfl (by decide) m_1287 rfl rfl dX12_ways_91 ?_
                            refine lv_iload (pc := 94) hx hb dX12_ways_94 (lv_at hl 5 rfl) ?_
                            refine lv_lconst (v := 0) (pc := 96) hx hb dX12_ways_96 (by decide) ?_
                            obtain ⟨f24, ef24⟩ : ∃ fz : Nat → Int64, vp_updL (lf (cpL ln z16 i)) (nI i).toNatClampNeg 0 = fz := ⟨_, rfl⟩
                            refine r_last (ws' := [(h0, .inr (12, [.int 0, .ref b1, .int 0, .int 0, .int 0, .int 0, .ref b6, .ref b7, .ref b8, .ref b9, .ref b10, .ref b11, .ref b12, .ref b13, .ref b14, .ref b15, .ref b16, .ref b17, .int 0, .int (-1), .int (-1), .ref b21, .ref b22, .ref b23, .ref b24, .ref b25, .ref b26, .int 0, .ref b28, .ref b29, .ref b30, .ref b31, .ref b32, .ref b33, .ref b34, .ref b35, .ref b36, .int 0, .int 0, .int 0, .int 0, .int 0, .int 0, .int 0, .int 0, .int 0, .ref b46, .ref b47, .ref b48, .ref b49, .ref b50, .ref b51, .ref b52, .ref b53, .ref b54, .ref b55, .ref b56, .ref b57, .ref b58, .ref b59, .ref b60, .ref b61, .ref b62, .ref b63])), (b59, .inl (g.2.1 2, 16, .inr (.inl (lf (stM 2 t))))), (b60, .inl (g.2.1 2, 16, .inr (.inl f24)))]) X hW 2 rfl (vp_in_nI (by omega) (by decide)) ef24 rfl dX12_ways_97 (fun H locs hW => ?_)
                            refine lv_iinc (v := nI (i + 1)) (lv' := [(5, .int (nI (i + 1))), (0, .ref h0), (1, .int (nI 2)), (2, .int (nI h)), (3, .int (nI k)), (4, .int (nI t))]) (pc := 98) hx hb dX12_ways_98 hl (k := 5) rfl (nI_1 i) (by decide) rfl (fun ls hl => ?_)
                            refine lv_goto (tgt := 83) (pc := 101) hx hb dX12_ways_101 rfl ?_
                            obtain rfl : f24 = lf (cpL ln z16 (i + 1)) := ef24.symm.trans (by rw [nI_clamp (by omega), cpL, z16_at]; exact lf_set (by rw [cpL_len, hln]; omega))
                            exact ih3 (i + 1) (by omega) (by omega) _ _ _ hW (lv_sub hl [1, 2, 3, 4, 5, 0] rfl)
                      exact loop3 17 0 (by omega) (by omega) _ _ _ hW (lv_sub hl [1, 2, 3, 4, 5, 0] rfl)
                exact loop2 (h + 1) 0 z16 (by omega) (by omega) rfl _ _ _ hW (lv_sub hl [1, 2, 3, 4, 0] rfl)
              · have hlt : i < 16 := ge_f (k := 16) (by omega) (by omega) c7
                refine lv_aload_n (pc := 47) hx hb dX12_ways_47 rfl (lv_at hl 0 rfl) ?_
                refine r_get X hW 0 ciX12 59 rfl (by decide) m_1286 rfl rfl dX12_ways_48 ?_
                refine lv_iload (pc := 51) hx hb dX12_ways_51 (lv_at hl 4 rfl) ?_
                refine lv_iload (pc := 53) hx hb dX12_ways_53 (lv_at hl 4 rfl) ?_
                refine lv_iconst (v := 1) (pc := 55) hx hb dX12_ways_55 (by decide) ?_
                refine lv_icmp_ne (tgt := 63) (pc := 56) hx hb dX12_ways_56 rfl (fun c25 => ?_) (fun c25 => ?_)
                · have hi1 : ¬ i = 1 := fun q => c25 (congrArg nI q)
                  refine lv_lconst (v := 0) (pc := 63) hx hb dX12_ways_63 (by decide) ?_
                  obtain ⟨f26, ef26⟩ : ∃ fz : Nat → Int64, vp_updL (lf (m0L i)) (nI i).toNatClampNeg 0 = fz := ⟨_, rfl⟩
                  refine r_last (ws' := [(h0, .inr (12, [.int 0, .ref b1, .int 0, .int 0, .int 0, .int 0, .ref b6, .ref b7, .ref b8, .ref b9, .ref b10, .ref b11, .ref b12, .ref b13, .ref b14, .ref b15, .ref b16, .ref b17, .int 0, .int (-1), .int (-1), .ref b21, .ref b22, .ref b23, .ref b24, .ref b25, .ref b26, .int 0, .ref b28, .ref b29, .ref b30, .ref b31, .ref b32, .ref b33, .ref b34, .ref b35, .ref b36, .int 0, .int 0, .int 0, .int 0, .int 0, .int 0, .int 0, .int 0, .int 0, .ref b46, .ref b47, .ref b48, .ref b49, .ref b50, .ref b51, .ref b52, .ref b53, .ref b54, .ref b55, .ref b56, .ref b57, .ref b58, .ref b59, .ref b60, .ref b61, .ref b62, .ref b63])), (b59, .inl (g.2.1 2, 16, .inr (.inl f26))), (b60, .inl (g.2.1 2, 16, .inr (.inl (lf z16))))]) X hW 1 rfl (vp_in_nI (by omega) (by decide)) ef26 rfl dX12_ways_64 (fun H locs hW => ?_)
                  refine lv_iinc (v := nI (i + 1)) (lv' := [(4, .int (nI (i + 1))), (0, .ref h0), (1, .int (nI 2)), (2, .int (nI h)), (3, .int (nI k))]) (pc := 65) hx hb dX12_ways_65 hl (k := 4) rfl (nI_1 i) (by decide) rfl (fun ls hl => ?_)
                  refine lv_goto (tgt := 40) (pc := 68) hx hb dX12_ways_68 rfl ?_
                  obtain rfl : f26 = lf (m0L (i + 1)) := ef26.symm.trans (by rw [nI_clamp (by omega), m0L, if_neg hi1]; exact lf_set (by rw [m0L_len]; omega))
                  exact ih1 (i + 1) (by omega) (by omega) _ _ _ hW (lv_sub hl [1, 2, 3, 4, 0] rfl)
                · have hi1 : i = 1 := (nI_eq (by omega) (by decide)).mp c25
                  refine lv_lconst (v := 1) (pc := 59) hx hb dX12_ways_59 (by decide) ?_
                  refine lv_goto (tgt := 64) (pc := 60) hx hb dX12_ways_60 rfl ?_
                  obtain ⟨f27, ef27⟩ : ∃ fz : Nat → Int64, vp_updL (lf (m0L i)) (nI i).toNatClampNeg 1 = fz := ⟨_, rfl⟩
                  refine r_last (ws' := [(h0, .inr (12, [.int 0, .ref b1, .int 0, .int 0, .int 0, .int 0, .ref b6, .ref b7, .ref b8, .ref b9, .ref b10, .ref b11, .ref b12, .ref b13, .ref b14, .ref b15, .ref b16, .ref b17, .int 0, .int (-1), .int (-1), .ref b21, .ref b22, .ref b23, .ref b24, .ref b25, .ref b26, .int 0, .ref b28, .ref b29, .ref b30, .ref b31, .ref b32, .ref b33, .ref b34, .ref b35, .ref b36, .int 0, .int 0, .int 0, .int 0, .int 0, .int 0, .int 0, .int 0, .int 0, .ref b46, .ref b47, .ref b48, .ref b49, .ref b50, .ref b51, .ref b52, .ref b53, .ref b54, .ref b55, .ref b56, .ref b57, .ref b58, .ref b59, .ref b60, .ref b61, .ref b62, .ref b63])), (b59, .inl (g.2.1 2, 16, .inr (.inl f27))), (b60, .inl (g.2.1 2, 16, .inr (.inl (lf z16))))]) X hW 1 rfl (vp_in_nI (by omega) (by decide)) ef27 rfl dX12_ways_64 (fun H locs hW => ?_)
                  refine lv_iinc (v := nI (i + 1)) (lv' := [(4, .int (nI (i + 1))), (0, .ref h0), (1, .int (nI 2)), (2, .int (nI h)), (3, .int (nI k))]) (pc := 65) hx hb dX12_ways_65 hl (k := 4) rfl (nI_1 i) (by decide) rfl (fun ls hl => ?_)
                  refine lv_goto (tgt := 40) (pc := 68) hx hb dX12_ways_68 rfl ?_
                  obtain rfl : f27 = lf (m0L (i + 1)) := ef27.symm.trans (by rw [nI_clamp (by omega), m0L, if_pos hi1]; exact lf_set (by rw [m0L_len]; omega))
                  exact ih1 (i + 1) (by omega) (by omega) _ _ _ hW (lv_sub hl [1, 2, 3, 4, 0] rfl)
          exact loop1 17 0 (by omega) (by omega) _ _ _ hW (lv_sub hl [1, 2, 3, 4, 0] rfl)
        · refine lv_iconst (v := 0) (pc := 37) hx hb dX12_ways_37 (by decide) ?_
          refine lv_istore (lv' := [(4, .int 0), (0, .ref h0), (1, .int (nI 3)), (2, .int (nI h)), (3, .int (nI k))]) (pc := 38) hx hb dX12_ways_38 hl (by decide) rfl (fun ls hl => ?_)
          have loop1 : ∀ (fu : Nat) (i : Nat), (16 < fu + i) → (i ≤ 16) → ∀ (H : Heap) (locs : List Loc) (ls : Array Slot), WD g A s H locs [(h0, .inr (12, [.int 0, .ref b1, .int 0, .int 0, .int 0, .int 0, .ref b6, .ref b7, .ref b8, .ref b9, .ref b10, .ref b11, .ref b12, .ref b13, .ref b14, .ref b15, .ref b16, .ref b17, .int 0, .int (-1), .int (-1), .ref b21, .ref b22, .ref b23, .ref b24, .ref b25, .ref b26, .int 0, .ref b28, .ref b29, .ref b30, .ref b31, .ref b32, .ref b33, .ref b34, .ref b35, .ref b36, .int 0, .int 0, .int 0, .int 0, .int 0, .int 0, .int 0, .int 0, .int 0, .ref b46, .ref b47, .ref b48, .ref b49, .ref b50, .ref b51, .ref b52, .ref b53, .ref b54, .ref b55, .ref b56, .ref b57, .ref b58, .ref b59, .ref b60, .ref b61, .ref b62, .ref b63])), (b59, .inl (g.2.1 2, 16, .inr (.inl (lf (m0L i))))), (b60, .inl (g.2.1 2, 16, .inr (.inl (lf z16))))] → lv_has ls 7 [(0, .ref h0), (1, .int (nI 3)), (2, .int (nI h)), (3, .int (nI k)), (4, .int (nI i))] → W p l e (RM 5 0 0) s m args below meth c H locs 0 0 Q (F0 m 40 ls []) := by
            intro fu
            induction fu with
            | zero =>
              intro i hm hi
              exact absurd hm (by omega)
            | succ fu ih1 =>
              intro i hm hi H locs ls hW hl
              refine lv_iload (pc := 40) hx hb dX12_ways_40 (lv_at hl 4 rfl) ?_
              refine lv_bipush (v := 16) (pc := 42) hx hb dX12_ways_42 (by decide) ?_
              refine lv_icmp_ge (tgt := 71) (pc := 44) hx hb dX12_ways_44 rfl (fun c28 => ?_) (fun c28 => ?_)
              · have h16 : i = 16 := by have := ge_t (k := 16) (by omega) (by omega) c28; omega
                rw [h16] at hW
                refine lv_iconst (v := 0) (pc := 71) hx hb dX12_ways_71 (by decide) ?_
                refine lv_istore (lv' := [(4, .int 0), (0, .ref h0), (1, .int (nI 3)), (2, .int (nI h)), (3, .int (nI k))]) (pc := 72) hx hb dX12_ways_72 hl (by decide) rfl (fun ls hl => ?_)
                have loop2 : ∀ (fv : Nat) (t : Nat) (ln : List Int64), (h < fv + t) → (t ≤ h) → (ln.length = 16) → ∀ (H : Heap) (locs : List Loc) (ls : Array Slot), WD g A s H locs [(h0, .inr (12, [.int 0, .ref b1, .int 0, .int 0, .int 0, .int 0, .ref b6, .ref b7, .ref b8, .ref b9, .ref b10, .ref b11, .ref b12, .ref b13, .ref b14, .ref b15, .ref b16, .ref b17, .int 0, .int (-1), .int (-1), .ref b21, .ref b22, .ref b23, .ref b24, .ref b25, .ref b26, .int 0, .ref b28, .ref b29, .ref b30, .ref b31, .ref b32, .ref b33, .ref b34, .ref b35, .ref b36, .int 0, .int 0, .int 0, .int 0, .int 0, .int 0, .int 0, .int 0, .int 0, .ref b46, .ref b47, .ref b48, .ref b49, .ref b50, .ref b51, .ref b52, .ref b53, .ref b54, .ref b55, .ref b56, .ref b57, .ref b58, .ref b59, .ref b60, .ref b61, .ref b62, .ref b63])), (b59, .inl (g.2.1 2, 16, .inr (.inl (lf (stM 3 t))))), (b60, .inl (g.2.1 2, 16, .inr (.inl (lf (ln)))))] → lv_has ls 7 [(0, .ref h0), (1, .int (nI 3)), (2, .int (nI h)), (3, .int (nI k)), (4, .int (nI t))] → W p l e (RM 5 0 0) s m args below meth c H locs 0 0 Q (F0 m 74 ls []) := by
                  intro fv
                  induction fv with
                  | zero =>
                    intro t ln hm2 ht hln
                    exact absurd hm2 (by omega)
                  | succ fv ih2 =>
                    intro t ln hm2 ht hln H locs ls hW hl
                    refine lv_iload (pc := 74) hx hb dX12_ways_74 (lv_at hl 4 rfl) ?_
                    refine lv_iload_n (pc := 76) hx hb dX12_ways_76 rfl (lv_at hl 2 rfl) ?_
                    refine lv_icmp_ge (tgt := 185) (pc := 77) hx hb dX12_ways_77 rfl (fun c29 => ?_) (fun c29 => ?_)
                    · have hth : t = h := by have := ge_t (k := h) (by omega) (by omega) c29; omega
                      rw [hth] at hW
                      refine lv_lconst (v := 0) (pc := 185) hx hb dX12_ways_185 (by decide) ?_
                      refine lv_lstore (lv' := [(4, .long 0), (0, .ref h0), (1, .int (nI 3)), (2, .int (nI h)), (3, .int (nI k))]) (pc := 186) hx hb dX12_ways_186 hl (by decide) rfl (fun ls hl => ?_)
                      refine lv_iconst (v := 0) (pc := 188) hx hb dX12_ways_188 (by decide) ?_
                      refine lv_istore (lv' := [(6, .int 0), (4, .long 0), (0, .ref h0), (1, .int (nI 3)), (2, .int (nI h)), (3, .int (nI k))]) (pc := 189) hx hb dX12_ways_189 hl (by decide) rfl (fun ls hl => ?_)
                      have loop6 : ∀ (fx : Nat) (i : Nat), (16 < fx + i) → (i ≤ 16) → ∀ (H : Heap) (locs : List Loc) (ls : Array Slot), WD g A s H locs [(h0, .inr (12, [.int 0, .ref b1, .int 0, .int 0, .int 0, .int 0, .ref b6, .ref b7, .ref b8, .ref b9, .ref b10, .ref b11, .ref b12, .ref b13, .ref b14, .ref b15, .ref b16, .ref b17, .int 0, .int (-1), .int (-1), .ref b21, .ref b22, .ref b23, .ref b24, .ref b25, .ref b26, .int 0, .ref b28, .ref b29, .ref b30, .ref b31, .ref b32, .ref b33, .ref b34, .ref b35, .ref b36, .int 0, .int 0, .int 0, .int 0, .int 0, .int 0, .int 0, .int 0, .int 0, .ref b46, .ref b47, .ref b48, .ref b49, .ref b50, .ref b51, .ref b52, .ref b53, .ref b54, .ref b55, .ref b56, .ref b57, .ref b58, .ref b59, .ref b60, .ref b61, .ref b62, .ref b63])), (b59, .inl (g.2.1 2, 16, .inr (.inl (lf (stM 3 h))))), (b60, .inl (g.2.1 2, 16, .inr (.inl (lf (ln)))))] → lv_has ls 7 [(0, .ref h0), (1, .int (nI 3)), (2, .int (nI h)), (3, .int (nI k)), (4, .long (smM (stM 3 h) k i)), (6, .int (nI i))] → W p l e (RM 5 0 0) s m args below meth c H locs 0 0 Q (F0 m 191 ls []) := by
                        intro fx
                        induction fx with
                        | zero =>
                          intro i hm6 hi
                          exact absurd hm6 (by omega)
                        | succ fx ih6 =>
                          intro i hm6 hi H locs ls hW hl
                          refine lv_iload (pc := 191) hx hb dX12_ways_191 (lv_at hl 5 rfl) ?_
                          refine lv_bipush (v := 16) (pc := 193) hx hb dX12_ways_193 (by decide) ?_
                          refine lv_icmp_ge (tgt := 229) (pc := 195) hx hb dX12_ways_195 rfl (fun c30 => ?_) (fun c30 => ?_)
                          · have h16 : i = 16 := by have := ge_t (k := 16) (by omega) (by omega) c30; omega
                            refine lv_lload (pc := 229) hx hb dX12_ways_229 (lv_at hl 4 rfl) ?_
                            exact e_l X hQ hr hW (u := []) [] rfl rfl (⟨by rw [h16, hwv]; exact fin_w (by decide) (by decide) hh1 hh hk1 hk, rfl⟩) ⟨Nat.le_of_ble_eq_true rfl, Nat.le_of_ble_eq_true rfl⟩ dX12_ways_231
                          · have hli : i < 16 := ge_f (k := 16) (by omega) (by omega) c30
                            have hp4 := pop4_le i hli
                            refine lv_lload (pc := 198) hx hb dX12_ways_198 (lv_at hl 4 rfl) ?_
                            refine lv_iload (pc := 200) hx hb dX12_ways_200 (lv_at hl 5 rfl) ?_
                            refine c_Si (pc := 202) (As := [.int (nI i)]) (rest := [.long (smM (stM 3 h) k i)]) (wr := [(h0, .inr (12, [.int 0, .ref b1, .int 0, .int 0, .int 0, .int 0, .ref b6, .ref b7, .ref b8, .ref b9, .ref b10, .ref b11, .ref b12, .ref b13, .ref b14, .ref b15, .ref b16, .ref b17, .int 0, .int (-1), .int (-1), .ref b21, .ref b22, .ref b23, .ref b24, .ref b25, .ref b26, .int 0, .ref b28, .ref b29, .ref b30, .ref b31, .ref b32, .ref b33, .ref b34, .ref b35, .ref b36, .int 0, .int 0, .int 0, .int 0, .int 0, .int 0, .int 0, .int 0, .int 0, .ref b46, .ref b47, .ref b48, .ref b49, .ref b50, .ref b51, .ref b52, .ref b53, .ref b54, .ref b55, .ref b56, .ref b57, .ref b58, .ref b59, .ref b60, .ref b61, .ref b62, .ref b63])), (b59, .inl (g.2.1 2, 16, .inr (.inl (lf (stM 3 h))))), (b60, .inl (g.2.1 2, 16, .inr (.inl (lf (ln)))))]) X hW (C_J6_bitCount_0f7a4 l g (nI i)) vX12_334 [] [0, 1, 2] rfl rfl rfl rfl rfl rfl hl.1 rfl (Nat.le_of_ble_eq_true rfl) ⟨Nat.le_of_ble_eq_true rfl, Nat.le_of_ble_eq_true rfl⟩ ⟨Nat.le_of_ble_eq_true rfl, Nat.le_of_ble_eq_true rfl⟩ dX12_ways_202 (fun r31 u9 H locs hq hW => ?_)
                            obtain ⟨hr9, rfl⟩ := hq
                            obtain rfl : r31 = nI (pop4 i) := hr9.trans (bc_n _ (by omega))
                            have hW : WD g A s _ _ [(h0, .inr (12, [.int 0, .ref b1, .int 0, .int 0, .int 0, .int 0, .ref b6, .ref b7, .ref b8, .ref b9, .ref b10, .ref b11, .ref b12, .ref b13, .ref b14, .ref b15, .ref b16, .ref b17, .int 0, .int (-1), .int (-1), .ref b21, .ref b22, .ref b23, .ref b24, .ref b25, .ref b26, .int 0, .ref b28, .ref b29, .ref b30, .ref b31, .ref b32, .ref b33, .ref b34, .ref b35, .ref b36, .int 0, .int 0, .int 0, .int 0, .int 0, .int 0, .int 0, .int 0, .int 0, .ref b46, .ref b47, .ref b48, .ref b49, .ref b50, .ref b51, .ref b52, .ref b53, .ref b54, .ref b55, .ref b56, .ref b57, .ref b58, .ref b59, .ref b60, .ref b61, .ref b62, .ref b63])), (b59, .inl (g.2.1 2, 16, .inr (.inl (lf (stM 3 h))))), (b60, .inl (g.2.1 2, 16, .inr (.inl (lf (ln)))))] := hW
                            refine lv_iload_n (pc := 205) hx hb dX12_ways_205 rfl (lv_at hl 3 rfl) ?_
                            refine lv_icmp_ne (tgt := 219) (pc := 206) hx hb dX12_ways_206 rfl (fun c32 => ?_) (fun c32 => ?_)
                            · have hpk : ¬ pop4 i = k := fun q => c32 (congrArg nI q)
                              refine lv_lconst (v := 0) (pc := 219) hx hb dX12_ways_219 (by decide) ?_
                              refine lv_ladd (pc := 220) hx hb dX12_ways_220 ?_
                              refine lv_topl (fun v33 ev33 => ?_)
                              obtain rfl : v33 = smM (stM 3 h) k (i + 1) := ev33.trans (by rw [smM, if_neg hpk])
                              refine lv_lstore (lv' := [(4, .long (smM (stM 3 h) k (i + 1))), (0, .ref h0), (1, .int (nI 3)), (2, .int (nI h)), (3, .int (nI k)), (6, .int (nI i))]) (pc := 221) hx hb dX12_ways_221 hl (by decide) rfl (fun ls hl => ?_)
                              refine lv_iinc (v := nI (i + 1)) (lv' := [(6, .int (nI (i + 1))), (4, .long (smM (stM 3 h) k (i + 1))), (0, .ref h0), (1, .int (nI 3)), (2, .int (nI h)), (3, .int (nI k))]) (pc := 223) hx hb dX12_ways_223 hl (k := 5) rfl (nI_1 i) (by decide) rfl (fun ls hl => ?_)
                              refine lv_goto (tgt := 191) (pc := 226) hx hb dX12_ways_226 rfl ?_
                              exact ih6 (i + 1) (by omega) (by omega) _ _ _ hW (lv_sub hl [2, 3, 4, 5, 1, 0] rfl)
                            · have hpk : pop4 i = k := (nI_eq (by omega) (by omega)).mp c32
                              refine lv_aload_n (pc := 209) hx hb dX12_ways_209 rfl (lv_at hl 0 rfl) ?_
                              refine r_get X hW 0 ciX12 59 rfl (by decide) m_1286 rfl rfl dX12_ways_210 ?_
                              refine lv_iload (pc := 213) hx hb dX12_ways_213 (lv_at hl 5 rfl) ?_
                              refine r_lald X hW 1 rfl (vp_in_nI (by omega) (by decide)) dX12_ways_215 ?_
                              refine lv_topl (fun v34 ev34 => ?_)
                              obtain rfl : v34 = (stM 3 h).getD i 0 := ev34.trans (by rw [nI_clamp (by omega)])
                              refine lv_goto (tgt := 220) (pc := 216) hx hb dX12_ways_216 rfl ?_
                              refine lv_ladd (pc := 220) hx hb dX12_ways_220 ?_
                              refine lv_topl (fun v35 ev35 => ?_)
                              obtain rfl : v35 = smM (stM 3 h) k (i + 1) := ev35.trans (by rw [smM, if_pos hpk])
                              refine lv_lstore (lv' := [(4, .long (smM (stM 3 h) k (i + 1))), (0, .ref h0), (1, .int (nI 3)), (2, .int (nI h)), (3, .int (nI k)), (6, .int (nI i))]) (pc := 221) hx hb dX12_ways_221 hl (by decide) rfl (fun ls hl => ?_)
                              refine lv_iinc (v := nI (i + 1)) (lv' := [(6, .int (nI (i + 1))), (4, .long (smM (stM 3 h) k (i + 1))), (0, .ref h0), (1, .int (nI 3)), (2, .int (nI h)), (3, .int (nI k))]) (pc := 223) hx hb dX12_ways_223 hl (k := 5) rfl (nI_1 i) (by decide) rfl (fun ls hl => ?_)
                              refine lv_goto (tgt := 191) (pc := 226) hx hb dX12_ways_226 rfl ?_
                              exact ih6 (i + 1) (by omega) (by omega) _ _ _ hW (lv_sub hl [2, 3, 4, 5, 1, 0] rfl)
                      exact loop6 17 0 (by omega) (by omega) _ _ _ hW (lv_sub hl [2, 3, 4, 5, 1, 0] rfl)
                    · have hlt : t < h := ge_f (k := h) (by omega) (by omega) c29
                      refine lv_iconst (v := 0) (pc := 80) hx hb dX12_ways_80 (by decide) ?_
                      refine lv_istore (lv' := [(5, .int 0), (0, .ref h0), (1, .int (nI 3)), (2, .int (nI h)), (3, .int (nI k)), (4, .int (nI t))]) (pc := 81) hx hb dX12_ways_81 hl (by decide) rfl (fun ls hl => ?_)
                      have loop3 : ∀ (fx : Nat) (i : Nat), (16 < fx + i) → (i ≤ 16) → ∀ (H : Heap) (locs : List Loc) (ls : Array Slot), WD g A s H locs [(h0, .inr (12, [.int 0, .ref b1, .int 0, .int 0, .int 0, .int 0, .ref b6, .ref b7, .ref b8, .ref b9, .ref b10, .ref b11, .ref b12, .ref b13, .ref b14, .ref b15, .ref b16, .ref b17, .int 0, .int (-1), .int (-1), .ref b21, .ref b22, .ref b23, .ref b24, .ref b25, .ref b26, .int 0, .ref b28, .ref b29, .ref b30, .ref b31, .ref b32, .ref b33, .ref b34, .ref b35, .ref b36, .int 0, .int 0, .int 0, .int 0, .int 0, .int 0, .int 0, .int 0, .int 0, .ref b46, .ref b47, .ref b48, .ref b49, .ref b50, .ref b51, .ref b52, .ref b53, .ref b54, .ref b55, .ref b56, .ref b57, .ref b58, .ref b59, .ref b60, .ref b61, .ref b62, .ref b63])), (b59, .inl (g.2.1 2, 16, .inr (.inl (lf (stM 3 t))))), (b60, .inl (g.2.1 2, 16, .inr (.inl (lf (cpL ln z16 i)))))] → lv_has ls 7 [(0, .ref h0), (1, .int (nI 3)), (2, .int (nI h)), (3, .int (nI k)), (4, .int (nI t)), (5, .int (nI i))] → W p l e (RM 5 0 0) s m args below meth c H locs 0 0 Q (F0 m 83 ls []) := by
                        intro fx
                        induction fx with
                        | zero =>
                          intro i hm3 hi
                          exact absurd hm3 (by omega)
                        | succ fx ih3 =>
                          intro i hm3 hi H locs ls hW hl
                          refine lv_iload (pc := 83) hx hb dX12_ways_83 (lv_at hl 5 rfl) ?_
                          refine lv_bipush (v := 16) (pc := 85) hx hb dX12_ways_85 (by decide) ?_
                          refine lv_icmp_ge (tgt := 104) (pc := 87) hx hb dX12_ways_87 rfl (fun c36 => ?_) (fun c36 => ?_)
                          · have h16 : i = 16 := by have := ge_t (k := 16) (by omega) (by omega) c36; omega
                            rw [h16, cpL_all hln rfl] at hW
                            refine lv_iconst (v := 0) (pc := 104) hx hb dX12_ways_104 (by decide) ?_
                            refine lv_istore (lv' := [(5, .int 0), (0, .ref h0), (1, .int (nI 3)), (2, .int (nI h)), (3, .int (nI k)), (4, .int (nI t))]) (pc := 105) hx hb dX12_ways_105 hl (by decide) rfl (fun ls hl => ?_)
                            have loop4 : ∀ (fx : Nat) (q : Nat), (8 < fx + q) → (q ≤ 8) → ∀ (H : Heap) (locs : List Loc) (ls : Array Slot), WD g A s H locs [(h0, .inr (12, [.int 0, .ref b1, .int 0, .int 0, .int 0, .int 0, .ref b6, .ref b7, .ref b8, .ref b9, .ref b10, .ref b11, .ref b12, .ref b13, .ref b14, .ref b15, .ref b16, .ref b17, .int 0, .int (-1), .int (-1), .ref b21, .ref b22, .ref b23, .ref b24, .ref b25, .ref b26, .int 0, .ref b28, .ref b29, .ref b30, .ref b31, .ref b32, .ref b33, .ref b34, .ref b35, .ref b36, .int 0, .int 0, .int 0, .int 0, .int 0, .int 0, .int 0, .int 0, .int 0, .ref b46, .ref b47, .ref b48, .ref b49, .ref b50, .ref b51, .ref b52, .ref b53, .ref b54, .ref b55, .ref b56, .ref b57, .ref b58, .ref b59, .ref b60, .ref b61, .ref b62, .ref b63])), (b59, .inl (g.2.1 2, 16, .inr (.inl (lf (stM 3 t))))), (b60, .inl (g.2.1 2, 16, .inr (.inl (lf (seL 3 (stM 3 t) q)))))] → lv_has ls 7 [(0, .ref h0), (1, .int (nI 3)), (2, .int (nI h)), (3, .int (nI k)), (4, .int (nI t)), (5, .int (nI q))] → W p l e (RM 5 0 0) s m args below meth c H locs 0 0 Q (F0 m 107 ls []) := by
                              intro fx
                              induction fx with
                              | zero =>
                                intro q hm4 hq
                                exact absurd hm4 (by omega)
                              | succ fx ih4 =>
                                intro q hm4 hq H locs ls hW hl
                                refine lv_iload (pc := 107) hx hb dX12_ways_107 (lv_at hl 5 rfl) ?_
                                refine lv_iconst (v := 1) (pc := 109) hx hb dX12_ways_109 (by decide) ?_
                                refine lv_iload_n (pc := 110) hx hb dX12_ways_110 rfl (lv_at hl 1 rfl) ?_
                                refine lv_ishl (pc := 111) hx hb dX12_ways_111 ?_
                                refine lv_topi (fun v37 ev37 => ?_)
                                obtain rfl : v37 = nI 8 := ev37.trans (by decide +kernel)
                                refine lv_icmp_ge (tgt := 149) (pc := 112) hx hb dX12_ways_112 rfl (fun c38 => ?_) (fun c38 => ?_)
                                · have hqe : q = 8 := by have := ge_t (k := 8) (by omega) (by omega) c38; omega
                                  rw [hqe] at hW
                                  have hW : WD g A s _ _ [(h0, .inr (12, [.int 0, .ref b1, .int 0, .int 0, .int 0, .int 0, .ref b6, .ref b7, .ref b8, .ref b9, .ref b10, .ref b11, .ref b12, .ref b13, .ref b14, .ref b15, .ref b16, .ref b17, .int 0, .int (-1), .int (-1), .ref b21, .ref b22, .ref b23, .ref b24, .ref b25, .ref b26, .int 0, .ref b28, .ref b29, .ref b30, .ref b31, .ref b32, .ref b33, .ref b34, .ref b35, .ref b36, .int 0, .int 0, .int 0, .int 0, .int 0, .int 0, .int 0, .int 0, .int 0, .ref b46, .ref b47, .ref b48, .ref b49, .ref b50, .ref b51, .ref b52, .ref b53, .ref b54, .ref b55, .ref b56, .ref b57, .ref b58, .ref b59, .ref b60, .ref b61, .ref b62, .ref b63])), (b59, .inl (g.2.1 2, 16, .inr (.inl (lf (stM 3 t))))), (b60, .inl (g.2.1 2, 16, .inr (.inl (lf (stM 3 (t + 1))))))] := hW
                                  refine lv_iconst (v := 0) (pc := 149) hx hb dX12_ways_149 (by decide) ?_
                                  refine lv_istore (lv' := [(5, .int 0), (0, .ref h0), (1, .int (nI 3)), (2, .int (nI h)), (3, .int (nI k)), (4, .int (nI t))]) (pc := 150) hx hb dX12_ways_150 hl (by decide) rfl (fun ls hl => ?_)
                                  have loop5 : ∀ (fx : Nat) (i : Nat), (16 < fx + i) → (i ≤ 16) → ∀ (H : Heap) (locs : List Loc) (ls : Array Slot), WD g A s H locs [(h0, .inr (12, [.int 0, .ref b1, .int 0, .int 0, .int 0, .int 0, .ref b6, .ref b7, .ref b8, .ref b9, .ref b10, .ref b11, .ref b12, .ref b13, .ref b14, .ref b15, .ref b16, .ref b17, .int 0, .int (-1), .int (-1), .ref b21, .ref b22, .ref b23, .ref b24, .ref b25, .ref b26, .int 0, .ref b28, .ref b29, .ref b30, .ref b31, .ref b32, .ref b33, .ref b34, .ref b35, .ref b36, .int 0, .int 0, .int 0, .int 0, .int 0, .int 0, .int 0, .int 0, .int 0, .ref b46, .ref b47, .ref b48, .ref b49, .ref b50, .ref b51, .ref b52, .ref b53, .ref b54, .ref b55, .ref b56, .ref b57, .ref b58, .ref b59, .ref b60, .ref b61, .ref b62, .ref b63])), (b59, .inl (g.2.1 2, 16, .inr (.inl (lf (cpL (stM 3 t) (stM 3 (t + 1)) i))))), (b60, .inl (g.2.1 2, 16, .inr (.inl (lf (stM 3 (t + 1))))))] → lv_has ls 7 [(0, .ref h0), (1, .int (nI 3)), (2, .int (nI h)), (3, .int (nI k)), (4, .int (nI t)), (5, .int (nI i))] → W p l e (RM 5 0 0) s m args below meth c H locs 0 0 Q (F0 m 152 ls []) := by
                                    intro fx
                                    induction fx with
                                    | zero =>
                                      intro i hm5 hi
                                      exact absurd hm5 (by omega)
                                    | succ fx ih5 =>
                                      intro i hm5 hi H locs ls hW hl
                                      refine lv_iload (pc := 152) hx hb dX12_ways_152 (lv_at hl 5 rfl) ?_
                                      refine lv_bipush (v := 16) (pc := 154) hx hb dX12_ways_154 (by decide) ?_
                                      refine lv_icmp_ge (tgt := 179) (pc := 156) hx hb dX12_ways_156 rfl (fun c39 => ?_) (fun c39 => ?_)
                                      · have h16 : i = 16 := by have := ge_t (k := 16) (by omega) (by omega) c39; omega
                                        rw [h16, cpL_all (stM_len _ _) (stM_len _ _)] at hW
                                        refine lv_iinc (v := nI (t + 1)) (lv' := [(4, .int (nI (t + 1))), (0, .ref h0), (1, .int (nI 3)), (2, .int (nI h)), (3, .int (nI k)), (5, .int (nI i))]) (pc := 179) hx hb dX12_ways_179 hl (k := 4) rfl (nI_1 t) (by decide) rfl (fun ls hl => ?_)
                                        refine lv_goto (tgt := 74) (pc := 182) hx hb dX12_ways_182 rfl ?_
                                        exact ih2 (t + 1) (stM 3 (t + 1)) (by omega) (by omega) (stM_len _ _) _ _ _ hW (lv_sub hl [1, 2, 3, 4, 0] rfl)
                                      · have hli : i < 16 := ge_f (k := 16) (by omega) (by omega) c39
                                        refine lv_aload_n (pc := 159) hx hb dX12_ways_159 rfl (lv_at hl 0 rfl) ?_
                                        refine r_get X hW 0 ciX12 59 rfl (by decide) m_1286 rfl rfl dX12_ways_160 ?_
                                        refine lv_iload (pc := 163) hx hb dX12_ways_163 (lv_at hl 5 rfl) ?_
                                        refine lv_aload_n (pc := 165) hx hb dX12_ways_165 rfl (lv_at hl 0 rfl) ?_
                                        refine r_get X hW 0 ciX12 60 rfl (by decide) m_1287 rfl rfl dX12_ways_166 ?_
                                        refine lv_iload (pc := 169) hx hb dX12_ways_169 (lv_at hl 5 rfl) ?_
                                        refine r_lald X hW 2 rfl (vp_in_nI (by omega) (by decide)) dX12_ways_171 ?_
                                        refine lv_topl (fun v40 ev40 => ?_)
                                        obtain rfl : v40 = (stM 3 (t + 1)).getD i 0 := ev40.trans (by rw [nI_clamp (by omega)])
                                        obtain ⟨f41, ef41⟩ : ∃ fz : Nat → Int64, vp_updL (lf (cpL (stM 3 t) (stM 3 (t + 1)) i)) (nI i).toNatClampNeg ((stM 3 (t + 1)).getD i 0) = fz := ⟨_, rfl⟩
                                        refine r_last (ws' := [(h0, .inr (12, [.int 0, .ref b1, .int 0, .int 0, .int 0, .int 0, .ref b6, .ref b7, .ref b8, .ref b9, .ref b10, .ref b11, .ref b12, .ref b13, .ref b14, .ref b15, .ref b16, .ref b17, .int 0, .int (-1), .int (-1), .ref b21, .ref b22, .ref b23, .ref b24, .ref b25, .ref b26, .int 0, .ref b28, .ref b29, .ref b30, .ref b31, .ref b32, .ref b33, .ref b34, .ref b35, .ref b36, .int 0, .int 0, .int 0, .int 0, .int 0, .int 0, .int 0, .int 0, .int 0, .ref b46, .ref b47, .ref b48, .ref b49, .ref b50, .ref b51, .ref b52, .ref b53, .ref b54, .ref b55, .ref b56, .ref b57, .ref b58, .ref b59, .ref b60, .ref b61, .ref b62, .ref b63])), (b59, .inl (g.2.1 2, 16, .inr (.inl f41))), (b60, .inl (g.2.1 2, 16, .inr (.inl (lf (stM 3 (t + 1))))))]) X hW 1 rfl (vp_in_nI (by omega) (by decide)) ef41 rfl dX12_ways_172 (fun H locs hW => ?_)
                                        refine lv_iinc (v := nI (i + 1)) (lv' := [(5, .int (nI (i + 1))), (0, .ref h0), (1, .int (nI 3)), (2, .int (nI h)), (3, .int (nI k)), (4, .int (nI t))]) (pc := 173) hx hb dX12_ways_173 hl (k := 5) rfl (nI_1 i) (by decide) rfl (fun ls hl => ?_)
                                        refine lv_goto (tgt := 152) (pc := 176) hx hb dX12_ways_176 rfl ?_
                                        obtain rfl : f41 = lf (cpL (stM 3 t) (stM 3 (t + 1)) (i + 1)) := ef41.symm.trans (by rw [nI_clamp (by omega)]; exact lf_set (by rw [cpL_len, stM_len]; omega))
                                        exact ih5 (i + 1) (by omega) (by omega) _ _ _ hW (lv_sub hl [1, 2, 3, 4, 5, 0] rfl)
                                  exact loop5 17 0 (by omega) (by omega) _ _ _ hW (lv_sub hl [1, 2, 3, 4, 5, 0] rfl)
                                · have hlq : q < 8 := ge_f (k := 8) (by omega) (by omega) c38
                                  refine lv_aload_n (pc := 115) hx hb dX12_ways_115 rfl (lv_at hl 0 rfl) ?_
                                  refine r_get X hW 0 ciX12 59 rfl (by decide) m_1286 rfl rfl dX12_ways_116 ?_
                                  refine lv_iload (pc := 119) hx hb dX12_ways_119 (lv_at hl 5 rfl) ?_
                                  refine r_lald X hW 1 rfl (vp_in_nI (by omega) (by decide)) dX12_ways_121 ?_
                                  refine lv_topl (fun v42 ev42 => ?_)
                                  obtain rfl : v42 = (stM 3 t).getD q 0 := ev42.trans (by rw [nI_clamp (by omega)])
                                  refine lv_lconst (v := 0) (pc := 122) hx hb dX12_ways_122 (by decide) ?_
                                  refine W.lcmp (pc := 123) hx hb dX12_ways_123 ?_
                                  refine lv_if_le (tgt := 143) (pc := 124) hx hb dX12_ways_124 rfl (fun c43 => ?_) (fun c43 => ?_)
                                  · have hpos := (lg_cmp_le _ _).mp c43
                                    rw [show lf (seL 3 (stM 3 t) q) = lf (seL 3 (stM 3 t) (q + 1)) from congrArg lf (if_pos hpos).symm] at hW
                                    refine lv_iinc (v := nI (q + 1)) (lv' := [(5, .int (nI (q + 1))), (0, .ref h0), (1, .int (nI 3)), (2, .int (nI h)), (3, .int (nI k)), (4, .int (nI t))]) (pc := 143) hx hb dX12_ways_143 hl (k := 5) rfl (nI_1 q) (by decide) rfl (fun ls hl => ?_)
                                    refine lv_goto (tgt := 107) (pc := 146) hx hb dX12_ways_146 rfl ?_
                                    exact ih4 (q + 1) (by omega) (by omega) _ _ _ hW (lv_sub hl [1, 2, 3, 4, 5, 0] rfl)
                                  · have hpos := fun z => c43 ((lg_cmp_le _ _).mpr z)
                                    refine lv_aload_n (pc := 127) hx hb dX12_ways_127 rfl (lv_at hl 0 rfl) ?_
                                    refine lv_iload_n (pc := 128) hx hb dX12_ways_128 rfl (lv_at hl 1 rfl) ?_
                                    refine lv_iload (pc := 129) hx hb dX12_ways_129 (lv_at hl 5 rfl) ?_
                                    refine lv_iconst (v := 0) (pc := 131) hx hb dX12_ways_131 (by decide) ?_
                                    refine lv_iconst (v := 0) (pc := 132) hx hb dX12_ways_132 (by decide) ?_
                                    refine lv_aload_n (pc := 133) hx hb dX12_ways_133 rfl (lv_at hl 0 rfl) ?_
                                    refine r_get X hW 0 ciX12 59 rfl (by decide) m_1286 rfl rfl dX12_ways_134 ?_
                                    refine lv_iload (pc := 137) hx hb dX12_ways_137 (lv_at hl 5 rfl) ?_
                                    refine r_lald X hW 1 rfl (vp_in_nI (by omega) (by decide)) dX12_ways_139 ?_
                                    refine lv_topl (fun v44 ev44 => ?_)
                                    obtain rfl : v44 = (stM 3 t).getD q 0 := ev44.trans (by rw [nI_clamp (by omega)])
                                    refine c_Vv (pc := 140) (As := [.int (nI 3), .int (nI q), .int 0, .int 0, .long ((stM 3 t).getD q 0)]) (rest := []) (wr := [(b59, .inl (g.2.1 2, 16, .inr (.inl (lf (stM 3 t)))))]) X hW 0 ciX12 rfl (C_choose_3 l g h0 b1 b6 b7 b8 b9 b10 b11 b12 b13 b14 b15 b16 b17 b21 b22 b23 b24 b25 b26 b28 b29 b30 b31 b32 b33 b34 b35 b36 b46 b47 b48 b49 b50 b51 b52 b53 b54 b55 b56 b57 b58 b59 b60 b61 b62 b63 3 q 0 0 ((stM 3 t).getD q 0) (seL 3 (stM 3 t) q) (by decide) (by omega) (by decide) (seL_len _ _ _) (by decide)) vX12_388 [0, 2] [1] rfl rfl rfl rfl rfl rfl hl.1 rfl (Nat.le_of_ble_eq_true rfl) ⟨Nat.le_of_ble_eq_true rfl, Nat.le_of_ble_eq_true rfl⟩ ⟨Nat.le_of_ble_eq_true rfl, Nat.le_of_ble_eq_true rfl⟩ dX12_ways_140 (fun u9 H locs hq hW => ?_)
                                    obtain rfl := hq
                                    have hW : WD g A s _ _ [(b59, .inl (g.2.1 2, 16, .inr (.inl (lf (stM 3 t))))), (h0, .inr (12, [.int 0, .ref b1, .int 0, .int 0, .int 0, .int 0, .ref b6, .ref b7, .ref b8, .ref b9, .ref b10, .ref b11, .ref b12, .ref b13, .ref b14, .ref b15, .ref b16, .ref b17, .int 0, .int (-1), .int (-1), .ref b21, .ref b22, .ref b23, .ref b24, .ref b25, .ref b26, .int 0, .ref b28, .ref b29, .ref b30, .ref b31, .ref b32, .ref b33, .ref b34, .ref b35, .ref b36, .int 0, .int 0, .int 0, .int 0, .int 0, .int 0, .int 0, .int 0, .int 0, .ref b46, .ref b47, .ref b48, .ref b49, .ref b50, .ref b51, .ref b52, .ref b53, .ref b54, .ref b55, .ref b56, .ref b57, .ref b58, .ref b59, .ref b60, .ref b61, .ref b62, .ref b63])), (b60, .inl (g.2.1 2, 16, .inr (.inl (lf (chL 3 q ((stM 3 t).getD q 0) 3 0 0 (seL 3 (stM 3 t) q))))))] := hW
                                    rw [show lf (chL 3 q ((stM 3 t).getD q 0) 3 0 0 (seL 3 (stM 3 t) q)) = lf (seL 3 (stM 3 t) (q + 1)) from congrArg lf (if_neg hpos).symm] at hW
                                    refine lv_iinc (v := nI (q + 1)) (lv' := [(5, .int (nI (q + 1))), (0, .ref h0), (1, .int (nI 3)), (2, .int (nI h)), (3, .int (nI k)), (4, .int (nI t))]) (pc := 143) hx hb dX12_ways_143 hl (k := 5) rfl (nI_1 q) (by decide) rfl (fun ls hl => ?_)
                                    refine lv_goto (tgt := 107) (pc := 146) hx hb dX12_ways_146 rfl ?_
                                    have hW : WD g A s _ _ [(h0, .inr (12, [.int 0, .ref b1, .int 0, .int 0, .int 0, .int 0, .ref b6, .ref b7, .ref b8, .ref b9, .ref b10, .ref b11, .ref b12, .ref b13, .ref b14, .ref b15, .ref b16, .ref b17, .int 0, .int (-1), .int (-1), .ref b21, .ref b22, .ref b23, .ref b24, .ref b25, .ref b26, .int 0, .ref b28, .ref b29, .ref b30, .ref b31, .ref b32, .ref b33, .ref b34, .ref b35, .ref b36, .int 0, .int 0, .int 0, .int 0, .int 0, .int 0, .int 0, .int 0, .int 0, .ref b46, .ref b47, .ref b48, .ref b49, .ref b50, .ref b51, .ref b52, .ref b53, .ref b54, .ref b55, .ref b56, .ref b57, .ref b58, .ref b59, .ref b60, .ref b61, .ref b62, .ref b63])), (b59, .inl (g.2.1 2, 16, .inr (.inl (lf (stM 3 t))))), (b60, .inl (g.2.1 2, 16, .inr (.inl (lf (seL 3 (stM 3 t) (q + 1))))))] := hW.pick [1, 0, 2] rfl rfl
                                    exact ih4 (q + 1) (by omega) (by omega) _ _ _ hW (lv_sub hl [1, 2, 3, 4, 5, 0] rfl)
                            exact loop4 9 0 (by omega) (by omega) _ _ _ hW (lv_sub hl [1, 2, 3, 4, 5, 0] rfl)
                          · have hli : i < 16 := ge_f (k := 16) (by omega) (by omega) c36
                            refine lv_aload_n (pc := 90) hx hb dX12_ways_90 rfl (lv_at hl 0 rfl) ?_
                            refine r_get X hW 0 ciX12 60 rfl (by decide) m_1287 rfl rfl dX12_ways_91 ?_
                            refine lv_iload (pc := 94) hx hb dX12_ways_94 (lv_at hl 5 rfl) ?_
                            refine lv_lconst (v := 0) (pc := 96) hx hb dX12_ways_96 (by decide) ?_
                            obtain ⟨f45, ef45⟩ : ∃ fz : Nat → Int64, vp_updL (lf (cpL ln z16 i)) (nI i).toNatClampNeg 0 = fz := ⟨_, rfl⟩
                            refine r_last (ws' := [(h0, .inr (12, [.int 0, .ref b1, .int 0, .int 0, .int 0, .int 0, .ref b6, .ref b7, .ref b8, .ref b9, .ref b10, .ref b11, .ref b12, .ref b13, .ref b14, .ref b15, .ref b16, .ref b17, .int 0, .int (-1), .int (-1), .ref b21, .ref b22, .ref b23, .ref b24, .ref b25, .ref b26, .int 0, .ref b28, .ref b29, .ref b30, .ref b31, .ref b32, .ref b33, .ref b34, .ref b35, .ref b36, .int 0, .int 0, .int 0, .int 0, .int 0, .int 0, .int 0, .int 0, .int 0, .ref b46, .ref b47, .ref b48, .ref b49, .ref b50, .ref b51, .ref b52, .ref b53, .ref b54, .ref b55, .ref b56, .ref b57, .ref b58, .ref b59, .ref b60, .ref b61, .ref b62, .ref b63])), (b59, .inl (g.2.1 2, 16, .inr (.inl (lf (stM 3 t))))), (b60, .inl (g.2.1 2, 16, .inr (.inl f45)))]) X hW 2 rfl (vp_in_nI (by omega) (by decide)) ef45 rfl dX12_ways_97 (fun H locs hW => ?_)
                            refine lv_iinc (v := nI (i + 1)) (lv' := [(5, .int (nI (i + 1))), (0, .ref h0), (1, .int (nI 3)), (2, .int (nI h)), (3, .int (nI k)), (4, .int (nI t))]) (pc := 98) hx hb dX12_ways_98 hl (k := 5) rfl (nI_1 i) (by decide) rfl (fun ls hl => ?_)
                            refine lv_goto (tgt := 83) (pc := 101) hx hb dX12_ways_101 rfl ?_
                            obtain rfl : f45 = lf (cpL ln z16 (i + 1)) := ef45.symm.trans (by rw [nI_clamp (by omega), cpL, z16_at]; exact lf_set (by rw [cpL_len, hln]; omega))
                            exact ih3 (i + 1) (by omega) (by omega) _ _ _ hW (lv_sub hl [1, 2, 3, 4, 5, 0] rfl)
                      exact loop3 17 0 (by omega) (by omega) _ _ _ hW (lv_sub hl [1, 2, 3, 4, 5, 0] rfl)
                exact loop2 (h + 1) 0 z16 (by omega) (by omega) rfl _ _ _ hW (lv_sub hl [1, 2, 3, 4, 0] rfl)
              · have hlt : i < 16 := ge_f (k := 16) (by omega) (by omega) c28
                refine lv_aload_n (pc := 47) hx hb dX12_ways_47 rfl (lv_at hl 0 rfl) ?_
                refine r_get X hW 0 ciX12 59 rfl (by decide) m_1286 rfl rfl dX12_ways_48 ?_
                refine lv_iload (pc := 51) hx hb dX12_ways_51 (lv_at hl 4 rfl) ?_
                refine lv_iload (pc := 53) hx hb dX12_ways_53 (lv_at hl 4 rfl) ?_
                refine lv_iconst (v := 1) (pc := 55) hx hb dX12_ways_55 (by decide) ?_
                refine lv_icmp_ne (tgt := 63) (pc := 56) hx hb dX12_ways_56 rfl (fun c46 => ?_) (fun c46 => ?_)
                · have hi1 : ¬ i = 1 := fun q => c46 (congrArg nI q)
                  refine lv_lconst (v := 0) (pc := 63) hx hb dX12_ways_63 (by decide) ?_
                  obtain ⟨f47, ef47⟩ : ∃ fz : Nat → Int64, vp_updL (lf (m0L i)) (nI i).toNatClampNeg 0 = fz := ⟨_, rfl⟩
                  refine r_last (ws' := [(h0, .inr (12, [.int 0, .ref b1, .int 0, .int 0, .int 0, .int 0, .ref b6, .ref b7, .ref b8, .ref b9, .ref b10, .ref b11, .ref b12, .ref b13, .ref b14, .ref b15, .ref b16, .ref b17, .int 0, .int (-1), .int (-1), .ref b21, .ref b22, .ref b23, .ref b24, .ref b25, .ref b26, .int 0, .ref b28, .ref b29, .ref b30, .ref b31, .ref b32, .ref b33, .ref b34, .ref b35, .ref b36, .int 0, .int 0, .int 0, .int 0, .int 0, .int 0, .int 0, .int 0, .int 0, .ref b46, .ref b47, .ref b48, .ref b49, .ref b50, .ref b51, .ref b52, .ref b53, .ref b54, .ref b55, .ref b56, .ref b57, .ref b58, .ref b59, .ref b60, .ref b61, .ref b62, .ref b63])), (b59, .inl (g.2.1 2, 16, .inr (.inl f47))), (b60, .inl (g.2.1 2, 16, .inr (.inl (lf z16))))]) X hW 1 rfl (vp_in_nI (by omega) (by decide)) ef47 rfl dX12_ways_64 (fun H locs hW => ?_)
                  refine lv_iinc (v := nI (i + 1)) (lv' := [(4, .int (nI (i + 1))), (0, .ref h0), (1, .int (nI 3)), (2, .int (nI h)), (3, .int (nI k))]) (pc := 65) hx hb dX12_ways_65 hl (k := 4) rfl (nI_1 i) (by decide) rfl (fun ls hl => ?_)
                  refine lv_goto (tgt := 40) (pc := 68) hx hb dX12_ways_68 rfl ?_
                  obtain rfl : f47 = lf (m0L (i + 1)) := ef47.symm.trans (by rw [nI_clamp (by omega), m0L, if_neg hi1]; exact lf_set (by rw [m0L_len]; omega))
                  exact ih1 (i + 1) (by omega) (by omega) _ _ _ hW (lv_sub hl [1, 2, 3, 4, 0] rfl)
                · have hi1 : i = 1 := (nI_eq (by omega) (by decide)).mp c46
                  refine lv_lconst (v := 1) (pc := 59) hx hb dX12_ways_59 (by decide) ?_
                  refine lv_goto (tgt := 64) (pc := 60) hx hb dX12_ways_60 rfl ?_
                  obtain ⟨f48, ef48⟩ : ∃ fz : Nat → Int64, vp_updL (lf (m0L i)) (nI i).toNatClampNeg 1 = fz := ⟨_, rfl⟩
                  refine r_last (ws' := [(h0, .inr (12, [.int 0, .ref b1, .int 0, .int 0, .int 0, .int 0, .ref b6, .ref b7, .ref b8, .ref b9, .ref b10, .ref b11, .ref b12, .ref b13, .ref b14, .ref b15, .ref b16, .ref b17, .int 0, .int (-1), .int (-1), .ref b21, .ref b22, .ref b23, .ref b24, .ref b25, .ref b26, .int 0, .ref b28, .ref b29, .ref b30, .ref b31, .ref b32, .ref b33, .ref b34, .ref b35, .ref b36, .int 0, .int 0, .int 0, .int 0, .int 0, .int 0, .int 0, .int 0, .int 0, .ref b46, .ref b47, .ref b48, .ref b49, .ref b50, .ref b51, .ref b52, .ref b53, .ref b54, .ref b55, .ref b56, .ref b57, .ref b58, .ref b59, .ref b60, .ref b61, .ref b62, .ref b63])), (b59, .inl (g.2.1 2, 16, .inr (.inl f48))), (b60, .inl (g.2.1 2, 16, .inr (.inl (lf z16))))]) X hW 1 rfl (vp_in_nI (by omega) (by decide)) ef48 rfl dX12_ways_64 (fun H locs hW => ?_)
                  refine lv_iinc (v := nI (i + 1)) (lv' := [(4, .int (nI (i + 1))), (0, .ref h0), (1, .int (nI 3)), (2, .int (nI h)), (3, .int (nI k))]) (pc := 65) hx hb dX12_ways_65 hl (k := 4) rfl (nI_1 i) (by decide) rfl (fun ls hl => ?_)
                  refine lv_goto (tgt := 40) (pc := 68) hx hb dX12_ways_68 rfl ?_
                  obtain rfl : f48 = lf (m0L (i + 1)) := ef48.symm.trans (by rw [nI_clamp (by omega), m0L, if_pos hi1]; exact lf_set (by rw [m0L_len]; omega))
                  exact ih1 (i + 1) (by omega) (by omega) _ _ _ hW (lv_sub hl [1, 2, 3, 4, 0] rfl)
          exact loop1 17 0 (by omega) (by omega) _ _ _ hW (lv_sub hl [1, 2, 3, 4, 0] rfl)
        · refine lv_iconst (v := 0) (pc := 37) hx hb dX12_ways_37 (by decide) ?_
          refine lv_istore (lv' := [(4, .int 0), (0, .ref h0), (1, .int (nI 4)), (2, .int (nI h)), (3, .int (nI k))]) (pc := 38) hx hb dX12_ways_38 hl (by decide) rfl (fun ls hl => ?_)
          have loop1 : ∀ (fu : Nat) (i : Nat), (16 < fu + i) → (i ≤ 16) → ∀ (H : Heap) (locs : List Loc) (ls : Array Slot), WD g A s H locs [(h0, .inr (12, [.int 0, .ref b1, .int 0, .int 0, .int 0, .int 0, .ref b6, .ref b7, .ref b8, .ref b9, .ref b10, .ref b11, .ref b12, .ref b13, .ref b14, .ref b15, .ref b16, .ref b17, .int 0, .int (-1), .int (-1), .ref b21, .ref b22, .ref b23, .ref b24, .ref b25, .ref b26, .int 0, .ref b28, .ref b29, .ref b30, .ref b31, .ref b32, .ref b33, .ref b34, .ref b35, .ref b36, .int 0, .int 0, .int 0, .int 0, .int 0, .int 0, .int 0, .int 0, .int 0, .ref b46, .ref b47, .ref b48, .ref b49, .ref b50, .ref b51, .ref b52, .ref b53, .ref b54, .ref b55, .ref b56, .ref b57, .ref b58, .ref b59, .ref b60, .ref b61, .ref b62, .ref b63])), (b59, .inl (g.2.1 2, 16, .inr (.inl (lf (m0L i))))), (b60, .inl (g.2.1 2, 16, .inr (.inl (lf z16))))] → lv_has ls 7 [(0, .ref h0), (1, .int (nI 4)), (2, .int (nI h)), (3, .int (nI k)), (4, .int (nI i))] → W p l e (RM 5 0 0) s m args below meth c H locs 0 0 Q (F0 m 40 ls []) := by
            intro fu
            induction fu with
            | zero =>
              intro i hm hi
              exact absurd hm (by omega)
            | succ fu ih1 =>
              intro i hm hi H locs ls hW hl
              refine lv_iload (pc := 40) hx hb dX12_ways_40 (lv_at hl 4 rfl) ?_
              refine lv_bipush (v := 16) (pc := 42) hx hb dX12_ways_42 (by decide) ?_
              refine lv_icmp_ge (tgt := 71) (pc := 44) hx hb dX12_ways_44 rfl (fun c49 => ?_) (fun c49 => ?_)
              · have h16 : i = 16 := by have := ge_t (k := 16) (by omega) (by omega) c49; omega
                rw [h16] at hW
                refine lv_iconst (v := 0) (pc := 71) hx hb dX12_ways_71 (by decide) ?_
                refine lv_istore (lv' := [(4, .int 0), (0, .ref h0), (1, .int (nI 4)), (2, .int (nI h)), (3, .int (nI k))]) (pc := 72) hx hb dX12_ways_72 hl (by decide) rfl (fun ls hl => ?_)
                have loop2 : ∀ (fv : Nat) (t : Nat) (ln : List Int64), (h < fv + t) → (t ≤ h) → (ln.length = 16) → ∀ (H : Heap) (locs : List Loc) (ls : Array Slot), WD g A s H locs [(h0, .inr (12, [.int 0, .ref b1, .int 0, .int 0, .int 0, .int 0, .ref b6, .ref b7, .ref b8, .ref b9, .ref b10, .ref b11, .ref b12, .ref b13, .ref b14, .ref b15, .ref b16, .ref b17, .int 0, .int (-1), .int (-1), .ref b21, .ref b22, .ref b23, .ref b24, .ref b25, .ref b26, .int 0, .ref b28, .ref b29, .ref b30, .ref b31, .ref b32, .ref b33, .ref b34, .ref b35, .ref b36, .int 0, .int 0, .int 0, .int 0, .int 0, .int 0, .int 0, .int 0, .int 0, .ref b46, .ref b47, .ref b48, .ref b49, .ref b50, .ref b51, .ref b52, .ref b53, .ref b54, .ref b55, .ref b56, .ref b57, .ref b58, .ref b59, .ref b60, .ref b61, .ref b62, .ref b63])), (b59, .inl (g.2.1 2, 16, .inr (.inl (lf (stM 4 t))))), (b60, .inl (g.2.1 2, 16, .inr (.inl (lf (ln)))))] → lv_has ls 7 [(0, .ref h0), (1, .int (nI 4)), (2, .int (nI h)), (3, .int (nI k)), (4, .int (nI t))] → W p l e (RM 5 0 0) s m args below meth c H locs 0 0 Q (F0 m 74 ls []) := by
                  intro fv
                  induction fv with
                  | zero =>
                    intro t ln hm2 ht hln
                    exact absurd hm2 (by omega)
                  | succ fv ih2 =>
                    intro t ln hm2 ht hln H locs ls hW hl
                    refine lv_iload (pc := 74) hx hb dX12_ways_74 (lv_at hl 4 rfl) ?_
                    refine lv_iload_n (pc := 76) hx hb dX12_ways_76 rfl (lv_at hl 2 rfl) ?_
                    refine lv_icmp_ge (tgt := 185) (pc := 77) hx hb dX12_ways_77 rfl (fun c50 => ?_) (fun c50 => ?_)
                    · have hth : t = h := by have := ge_t (k := h) (by omega) (by omega) c50; omega
                      rw [hth] at hW
                      refine lv_lconst (v := 0) (pc := 185) hx hb dX12_ways_185 (by decide) ?_
                      refine lv_lstore (lv' := [(4, .long 0), (0, .ref h0), (1, .int (nI 4)), (2, .int (nI h)), (3, .int (nI k))]) (pc := 186) hx hb dX12_ways_186 hl (by decide) rfl (fun ls hl => ?_)
                      refine lv_iconst (v := 0) (pc := 188) hx hb dX12_ways_188 (by decide) ?_
                      refine lv_istore (lv' := [(6, .int 0), (4, .long 0), (0, .ref h0), (1, .int (nI 4)), (2, .int (nI h)), (3, .int (nI k))]) (pc := 189) hx hb dX12_ways_189 hl (by decide) rfl (fun ls hl => ?_)
                      have loop6 : ∀ (fx : Nat) (i : Nat), (16 < fx + i) → (i ≤ 16) → ∀ (H : Heap) (locs : List Loc) (ls : Array Slot), WD g A s H locs [(h0, .inr (12, [.int 0, .ref b1, .int 0, .int 0, .int 0, .int 0, .ref b6, .ref b7, .ref b8, .ref b9, .ref b10, .ref b11, .ref b12, .ref b13, .ref b14, .ref b15, .ref b16, .ref b17, .int 0, .int (-1), .int (-1), .ref b21, .ref b22, .ref b23, .ref b24, .ref b25, .ref b26, .int 0, .ref b28, .ref b29, .ref b30, .ref b31, .ref b32, .ref b33, .ref b34, .ref b35, .ref b36, .int 0, .int 0, .int 0, .int 0, .int 0, .int 0, .int 0, .int 0, .int 0, .ref b46, .ref b47, .ref b48, .ref b49, .ref b50, .ref b51, .ref b52, .ref b53, .ref b54, .ref b55, .ref b56, .ref b57, .ref b58, .ref b59, .ref b60, .ref b61, .ref b62, .ref b63])), (b59, .inl (g.2.1 2, 16, .inr (.inl (lf (stM 4 h))))), (b60, .inl (g.2.1 2, 16, .inr (.inl (lf (ln)))))] → lv_has ls 7 [(0, .ref h0), (1, .int (nI 4)), (2, .int (nI h)), (3, .int (nI k)), (4, .long (smM (stM 4 h) k i)), (6, .int (nI i))] → W p l e (RM 5 0 0) s m args below meth c H locs 0 0 Q (F0 m 191 ls []) := by
                        intro fx
                        induction fx with
                        | zero =>
                          intro i hm6 hi
                          exact absurd hm6 (by omega)
                        | succ fx ih6 =>
                          intro i hm6 hi H locs ls hW hl
                          refine lv_iload (pc := 191) hx hb dX12_ways_191 (lv_at hl 5 rfl) ?_
                          refine lv_bipush (v := 16) (pc := 193) hx hb dX12_ways_193 (by decide) ?_
                          refine lv_icmp_ge (tgt := 229) (pc := 195) hx hb dX12_ways_195 rfl (fun c51 => ?_) (fun c51 => ?_)
                          · have h16 : i = 16 := by have := ge_t (k := 16) (by omega) (by omega) c51; omega
                            refine lv_lload (pc := 229) hx hb dX12_ways_229 (lv_at hl 4 rfl) ?_
                            exact e_l X hQ hr hW (u := []) [] rfl rfl (⟨by rw [h16, hwv]; exact fin_w (by decide) (by decide) hh1 hh hk1 hk, rfl⟩) ⟨Nat.le_of_ble_eq_true rfl, Nat.le_of_ble_eq_true rfl⟩ dX12_ways_231
                          · have hli : i < 16 := ge_f (k := 16) (by omega) (by omega) c51
                            have hp4 := pop4_le i hli
                            refine lv_lload (pc := 198) hx hb dX12_ways_198 (lv_at hl 4 rfl) ?_
                            refine lv_iload (pc := 200) hx hb dX12_ways_200 (lv_at hl 5 rfl) ?_
                            refine c_Si (pc := 202) (As := [.int (nI i)]) (rest := [.long (smM (stM 4 h) k i)]) (wr := [(h0, .inr (12, [.int 0, .ref b1, .int 0, .int 0, .int 0, .int 0, .ref b6, .ref b7, .ref b8, .ref b9, .ref b10, .ref b11, .ref b12, .ref b13, .ref b14, .ref b15, .ref b16, .ref b17, .int 0, .int (-1), .int (-1), .ref b21, .ref b22, .ref b23, .ref b24, .ref b25, .ref b26, .int 0, .ref b28, .ref b29, .ref b30, .ref b31, .ref b32, .ref b33, .ref b34, .ref b35, .ref b36, .int 0, .int 0, .int 0, .int 0, .int 0, .int 0, .int 0, .int 0, .int 0, .ref b46, .ref b47, .ref b48, .ref b49, .ref b50, .ref b51, .ref b52, .ref b53, .ref b54, .ref b55, .ref b56, .ref b57, .ref b58, .ref b59, .ref b60, .ref b61, .ref b62, .ref b63])), (b59, .inl (g.2.1 2, 16, .inr (.inl (lf (stM 4 h))))), (b60, .inl (g.2.1 2, 16, .inr (.inl (lf (ln)))))]) X hW (C_J6_bitCount_0f7a4 l g (nI i)) vX12_334 [] [0, 1, 2] rfl rfl rfl rfl rfl rfl hl.1 rfl (Nat.le_of_ble_eq_true rfl) ⟨Nat.le_of_ble_eq_true rfl, Nat.le_of_ble_eq_true rfl⟩ ⟨Nat.le_of_ble_eq_true rfl, Nat.le_of_ble_eq_true rfl⟩ dX12_ways_202 (fun r52 u9 H locs hq hW => ?_)
                            obtain ⟨hr9, rfl⟩ := hq
                            obtain rfl : r52 = nI (pop4 i) := hr9.trans (bc_n _ (by omega))
                            have hW : WD g A s _ _ [(h0, .inr (12, [.int 0, .ref b1, .int 0, .int 0, .int 0, .int 0, .ref b6, .ref b7, .ref b8, .ref b9, .ref b10, .ref b11, .ref b12, .ref b13, .ref b14, .ref b15, .ref b16, .ref b17, .int 0, .int (-1), .int (-1), .ref b21, .ref b22, .ref b23, .ref b24, .ref b25, .ref b26, .int 0, .ref b28, .ref b29, .ref b30, .ref b31, .ref b32, .ref b33, .ref b34, .ref b35, .ref b36, .int 0, .int 0, .int 0, .int 0, .int 0, .int 0, .int 0, .int 0, .int 0, .ref b46, .ref b47, .ref b48, .ref b49, .ref b50, .ref b51, .ref b52, .ref b53, .ref b54, .ref b55, .ref b56, .ref b57, .ref b58, .ref b59, .ref b60, .ref b61, .ref b62, .ref b63])), (b59, .inl (g.2.1 2, 16, .inr (.inl (lf (stM 4 h))))), (b60, .inl (g.2.1 2, 16, .inr (.inl (lf (ln)))))] := hW
                            refine lv_iload_n (pc := 205) hx hb dX12_ways_205 rfl (lv_at hl 3 rfl) ?_
                            refine lv_icmp_ne (tgt := 219) (pc := 206) hx hb dX12_ways_206 rfl (fun c53 => ?_) (fun c53 => ?_)
                            · have hpk : ¬ pop4 i = k := fun q => c53 (congrArg nI q)
                              refine lv_lconst (v := 0) (pc := 219) hx hb dX12_ways_219 (by decide) ?_
                              refine lv_ladd (pc := 220) hx hb dX12_ways_220 ?_
                              refine lv_topl (fun v54 ev54 => ?_)
                              obtain rfl : v54 = smM (stM 4 h) k (i + 1) := ev54.trans (by rw [smM, if_neg hpk])
                              refine lv_lstore (lv' := [(4, .long (smM (stM 4 h) k (i + 1))), (0, .ref h0), (1, .int (nI 4)), (2, .int (nI h)), (3, .int (nI k)), (6, .int (nI i))]) (pc := 221) hx hb dX12_ways_221 hl (by decide) rfl (fun ls hl => ?_)
                              refine lv_iinc (v := nI (i + 1)) (lv' := [(6, .int (nI (i + 1))), (4, .long (smM (stM 4 h) k (i + 1))), (0, .ref h0), (1, .int (nI 4)), (2, .int (nI h)), (3, .int (nI k))]) (pc := 223) hx hb dX12_ways_223 hl (k := 5) rfl (nI_1 i) (by decide) rfl (fun ls hl => ?_)
                              refine lv_goto (tgt := 191) (pc := 226) hx hb dX12_ways_226 rfl ?_
                              exact ih6 (i + 1) (by omega) (by omega) _ _ _ hW (lv_sub hl [2, 3, 4, 5, 1, 0] rfl)
                            · have hpk : pop4 i = k := (nI_eq (by omega) (by omega)).mp c53
                              refine lv_aload_n (pc := 209) hx hb dX12_ways_209 rfl (lv_at hl 0 rfl) ?_
                              refine r_get X hW 0 ciX12 59 rfl (by decide) m_1286 rfl rfl dX12_ways_210 ?_
                              refine lv_iload (pc := 213) hx hb dX12_ways_213 (lv_at hl 5 rfl) ?_
                              refine r_lald X hW 1 rfl (vp_in_nI (by omega) (by decide)) dX12_ways_215 ?_
                              refine lv_topl (fun v55 ev55 => ?_)
                              obtain rfl : v55 = (stM 4 h).getD i 0 := ev55.trans (by rw [nI_clamp (by omega)])
                              refine lv_goto (tgt := 220) (pc := 216) hx hb dX12_ways_216 rfl ?_
                              refine lv_ladd (pc := 220) hx hb dX12_ways_220 ?_
                              refine lv_topl (fun v56 ev56 => ?_)
                              obtain rfl : v56 = smM (stM 4 h) k (i + 1) := ev56.trans (by rw [smM, if_pos hpk])
                              refine lv_lstore (lv' := [(4, .long (smM (stM 4 h) k (i + 1))), (0, .ref h0), (1, .int (nI 4)), (2, .int (nI h)), (3, .int (nI k)), (6, .int (nI i))]) (pc := 221) hx hb dX12_ways_221 hl (by decide) rfl (fun ls hl => ?_)
                              refine lv_iinc (v := nI (i + 1)) (lv' := [(6, .int (nI (i + 1))), (4, .long (smM (stM 4 h) k (i + 1))), (0, .ref h0), (1, .int (nI 4)), (2, .int (nI h)), (3, .int (nI k))]) (pc := 223) hx hb dX12_ways_223 hl (k := 5) rfl (nI_1 i) (by decide) rfl (fun ls hl => ?_)
                              refine lv_goto (tgt := 191) (pc := 226) hx hb dX12_ways_226 rfl ?_
                              exact ih6 (i + 1) (by omega) (by omega) _ _ _ hW (lv_sub hl [2, 3, 4, 5, 1, 0] rfl)
                      exact loop6 17 0 (by omega) (by omega) _ _ _ hW (lv_sub hl [2, 3, 4, 5, 1, 0] rfl)
                    · have hlt : t < h := ge_f (k := h) (by omega) (by omega) c50
                      refine lv_iconst (v := 0) (pc := 80) hx hb dX12_ways_80 (by decide) ?_
                      refine lv_istore (lv' := [(5, .int 0), (0, .ref h0), (1, .int (nI 4)), (2, .int (nI h)), (3, .int (nI k)), (4, .int (nI t))]) (pc := 81) hx hb dX12_ways_81 hl (by decide) rfl (fun ls hl => ?_)
                      have loop3 : ∀ (fx : Nat) (i : Nat), (16 < fx + i) → (i ≤ 16) → ∀ (H : Heap) (locs : List Loc) (ls : Array Slot), WD g A s H locs [(h0, .inr (12, [.int 0, .ref b1, .int 0, .int 0, .int 0, .int 0, .ref b6, .ref b7, .ref b8, .ref b9, .ref b10, .ref b11, .ref b12, .ref b13, .ref b14, .ref b15, .ref b16, .ref b17, .int 0, .int (-1), .int (-1), .ref b21, .ref b22, .ref b23, .ref b24, .ref b25, .ref b26, .int 0, .ref b28, .ref b29, .ref b30, .ref b31, .ref b32, .ref b33, .ref b34, .ref b35, .ref b36, .int 0, .int 0, .int 0, .int 0, .int 0, .int 0, .int 0, .int 0, .int 0, .ref b46, .ref b47, .ref b48, .ref b49, .ref b50, .ref b51, .ref b52, .ref b53, .ref b54, .ref b55, .ref b56, .ref b57, .ref b58, .ref b59, .ref b60, .ref b61, .ref b62, .ref b63])), (b59, .inl (g.2.1 2, 16, .inr (.inl (lf (stM 4 t))))), (b60, .inl (g.2.1 2, 16, .inr (.inl (lf (cpL ln z16 i)))))] → lv_has ls 7 [(0, .ref h0), (1, .int (nI 4)), (2, .int (nI h)), (3, .int (nI k)), (4, .int (nI t)), (5, .int (nI i))] → W p l e (RM 5 0 0) s m args below meth c H locs 0 0 Q (F0 m 83 ls []) := by
                        intro fx
                        induction fx with
                        | zero =>
                          intro i hm3 hi
                          exact absurd hm3 (by omega)
                        | succ fx ih3 =>
                          intro i hm3 hi H locs ls hW hl
                          refine lv_iload (pc := 83) hx hb dX12_ways_83 (lv_at hl 5 rfl) ?_
                          refine lv_bipush (v := 16) (pc := 85) hx hb dX12_ways_85 (by decide) ?_
                          refine lv_icmp_ge (tgt := 104) (pc := 87) hx hb dX12_ways_87 rfl (fun c57 => ?_) (fun c57 => ?_)
                          · have h16 : i = 16 := by have := ge_t (k := 16) (by omega) (by omega) c57; omega
                            rw [h16, cpL_all hln rfl] at hW
                            refine lv_iconst (v := 0) (pc := 104) hx hb dX12_ways_104 (by decide) ?_
                            refine lv_istore (lv' := [(5, .int 0), (0, .ref h0), (1, .int (nI 4)), (2, .int (nI h)), (3, .int (nI k)), (4, .int (nI t))]) (pc := 105) hx hb dX12_ways_105 hl (by decide) rfl (fun ls hl => ?_)
                            have loop4 : ∀ (fx : Nat) (q : Nat), (16 < fx + q) → (q ≤ 16) → ∀ (H : Heap) (locs : List Loc) (ls : Array Slot), WD g A s H locs [(h0, .inr (12, [.int 0, .ref b1, .int 0, .int 0, .int 0, .int 0, .ref b6, .ref b7, .ref b8, .ref b9, .ref b10, .ref b11, .ref b12, .ref b13, .ref b14, .ref b15, .ref b16, .ref b17, .int 0, .int (-1), .int (-1), .ref b21, .ref b22, .ref b23, .ref b24, .ref b25, .ref b26, .int 0, .ref b28, .ref b29, .ref b30, .ref b31, .ref b32, .ref b33, .ref b34, .ref b35, .ref b36, .int 0, .int 0, .int 0, .int 0, .int 0, .int 0, .int 0, .int 0, .int 0, .ref b46, .ref b47, .ref b48, .ref b49, .ref b50, .ref b51, .ref b52, .ref b53, .ref b54, .ref b55, .ref b56, .ref b57, .ref b58, .ref b59, .ref b60, .ref b61, .ref b62, .ref b63])), (b59, .inl (g.2.1 2, 16, .inr (.inl (lf (stM 4 t))))), (b60, .inl (g.2.1 2, 16, .inr (.inl (lf (seL 4 (stM 4 t) q)))))] → lv_has ls 7 [(0, .ref h0), (1, .int (nI 4)), (2, .int (nI h)), (3, .int (nI k)), (4, .int (nI t)), (5, .int (nI q))] → W p l e (RM 5 0 0) s m args below meth c H locs 0 0 Q (F0 m 107 ls []) := by
                              intro fx
                              induction fx with
                              | zero =>
                                intro q hm4 hq
                                exact absurd hm4 (by omega)
                              | succ fx ih4 =>
                                intro q hm4 hq H locs ls hW hl
                                refine lv_iload (pc := 107) hx hb dX12_ways_107 (lv_at hl 5 rfl) ?_
                                refine lv_iconst (v := 1) (pc := 109) hx hb dX12_ways_109 (by decide) ?_
                                refine lv_iload_n (pc := 110) hx hb dX12_ways_110 rfl (lv_at hl 1 rfl) ?_
                                refine lv_ishl (pc := 111) hx hb dX12_ways_111 ?_
                                refine lv_topi (fun v58 ev58 => ?_)
                                obtain rfl : v58 = nI 16 := ev58.trans (by decide +kernel)
                                refine lv_icmp_ge (tgt := 149) (pc := 112) hx hb dX12_ways_112 rfl (fun c59 => ?_) (fun c59 => ?_)
                                · have hqe : q = 16 := by have := ge_t (k := 16) (by omega) (by omega) c59; omega
                                  rw [hqe] at hW
                                  have hW : WD g A s _ _ [(h0, .inr (12, [.int 0, .ref b1, .int 0, .int 0, .int 0, .int 0, .ref b6, .ref b7, .ref b8, .ref b9, .ref b10, .ref b11, .ref b12, .ref b13, .ref b14, .ref b15, .ref b16, .ref b17, .int 0, .int (-1), .int (-1), .ref b21, .ref b22, .ref b23, .ref b24, .ref b25, .ref b26, .int 0, .ref b28, .ref b29, .ref b30, .ref b31, .ref b32, .ref b33, .ref b34, .ref b35, .ref b36, .int 0, .int 0, .int 0, .int 0, .int 0, .int 0, .int 0, .int 0, .int 0, .ref b46, .ref b47, .ref b48, .ref b49, .ref b50, .ref b51, .ref b52, .ref b53, .ref b54, .ref b55, .ref b56, .ref b57, .ref b58, .ref b59, .ref b60, .ref b61, .ref b62, .ref b63])), (b59, .inl (g.2.1 2, 16, .inr (.inl (lf (stM 4 t))))), (b60, .inl (g.2.1 2, 16, .inr (.inl (lf (stM 4 (t + 1))))))] := hW
                                  refine lv_iconst (v := 0) (pc := 149) hx hb dX12_ways_149 (by decide) ?_
                                  refine lv_istore (lv' := [(5, .int 0), (0, .ref h0), (1, .int (nI 4)), (2, .int (nI h)), (3, .int (nI k)), (4, .int (nI t))]) (pc := 150) hx hb dX12_ways_150 hl (by decide) rfl (fun ls hl => ?_)
                                  have loop5 : ∀ (fx : Nat) (i : Nat), (16 < fx + i) → (i ≤ 16) → ∀ (H : Heap) (locs : List Loc) (ls : Array Slot), WD g A s H locs [(h0, .inr (12, [.int 0, .ref b1, .int 0, .int 0, .int 0, .int 0, .ref b6, .ref b7, .ref b8, .ref b9, .ref b10, .ref b11, .ref b12, .ref b13, .ref b14, .ref b15, .ref b16, .ref b17, .int 0, .int (-1), .int (-1), .ref b21, .ref b22, .ref b23, .ref b24, .ref b25, .ref b26, .int 0, .ref b28, .ref b29, .ref b30, .ref b31, .ref b32, .ref b33, .ref b34, .ref b35, .ref b36, .int 0, .int 0, .int 0, .int 0, .int 0, .int 0, .int 0, .int 0, .int 0, .ref b46, .ref b47, .ref b48, .ref b49, .ref b50, .ref b51, .ref b52, .ref b53, .ref b54, .ref b55, .ref b56, .ref b57, .ref b58, .ref b59, .ref b60, .ref b61, .ref b62, .ref b63])), (b59, .inl (g.2.1 2, 16, .inr (.inl (lf (cpL (stM 4 t) (stM 4 (t + 1)) i))))), (b60, .inl (g.2.1 2, 16, .inr (.inl (lf (stM 4 (t + 1))))))] → lv_has ls 7 [(0, .ref h0), (1, .int (nI 4)), (2, .int (nI h)), (3, .int (nI k)), (4, .int (nI t)), (5, .int (nI i))] → W p l e (RM 5 0 0) s m args below meth c H locs 0 0 Q (F0 m 152 ls []) := by
                                    intro fx
                                    induction fx with
                                    | zero =>
                                      intro i hm5 hi
                                      exact absurd hm5 (by omega)
                                    | succ fx ih5 =>
                                      intro i hm5 hi H locs ls hW hl
                                      refine lv_iload (pc := 152) hx hb dX12_ways_152 (lv_at hl 5 rfl) ?_
                                      refine lv_bipush (v := 16) (pc := 154) hx hb dX12_ways_154 (by decide) ?_
                                      refine lv_icmp_ge (tgt := 179) (pc := 156) hx hb dX12_ways_156 rfl (fun c60 => ?_) (fun c60 => ?_)
                                      · have h16 : i = 16 := by have := ge_t (k := 16) (by omega) (by omega) c60; omega
                                        rw [h16, cpL_all (stM_len _ _) (stM_len _ _)] at hW
                                        refine lv_iinc (v := nI (t + 1)) (lv' := [(4, .int (nI (t + 1))), (0, .ref h0), (1, .int (nI 4)), (2, .int (nI h)), (3, .int (nI k)), (5, .int (nI i))]) (pc := 179) hx hb dX12_ways_179 hl (k := 4) rfl (nI_1 t) (by decide) rfl (fun ls hl => ?_)
                                        refine lv_goto (tgt := 74) (pc := 182) hx hb dX12_ways_182 rfl ?_
                                        exact ih2 (t + 1) (stM 4 (t + 1)) (by omega) (by omega) (stM_len _ _) _ _ _ hW (lv_sub hl [1, 2, 3, 4, 0] rfl)
                                      · have hli : i < 16 := ge_f (k := 16) (by omega) (by omega) c60
                                        refine lv_aload_n (pc := 159) hx hb dX12_ways_159 rfl (lv_at hl 0 rfl) ?_
                                        refine r_get X hW 0 ciX12 59 rfl (by decide) m_1286 rfl rfl dX12_ways_160 ?_
                                        refine lv_iload (pc := 163) hx hb dX12_ways_163 (lv_at hl 5 rfl) ?_
                                        refine lv_aload_n (pc := 165) hx hb dX12_ways_165 rfl (lv_at hl 0 rfl) ?_
                                        refine r_get X hW 0 ciX12 60 rfl (by decide) m_1287 rfl rfl dX12_ways_166 ?_
                                        refine lv_iload (pc := 169) hx hb dX12_ways_169 (lv_at hl 5 rfl) ?_
                                        refine r_lald X hW 2 rfl (vp_in_nI (by omega) (by decide)) dX12_ways_171 ?_
                                        refine lv_topl (fun v61 ev61 => ?_)
                                        obtain rfl : v61 = (stM 4 (t + 1)).getD i 0 := ev61.trans (by rw [nI_clamp (by omega)])
                                        obtain ⟨f62, ef62⟩ : ∃ fz : Nat → Int64, vp_updL (lf (cpL (stM 4 t) (stM 4 (t + 1)) i)) (nI i).toNatClampNeg ((stM 4 (t + 1)).getD i 0) = fz := ⟨_, rfl⟩
                                        refine r_last (ws' := [(h0, .inr (12, [.int 0, .ref b1, .int 0, .int 0, .int 0, .int 0, .ref b6, .ref b7, .ref b8, .ref b9, .ref b10, .ref b11, .ref b12, .ref b13, .ref b14, .ref b15, .ref b16, .ref b17, .int 0, .int (-1), .int (-1), .ref b21, .ref b22, .ref b23, .ref b24, .ref b25, .ref b26, .int 0, .ref b28, .ref b29, .ref b30, .ref b31, .ref b32, .ref b33, .ref b34, .ref b35, .ref b36, .int 0, .int 0, .int 0, .int 0, .int 0, .int 0, .int 0, .int 0, .int 0, .ref b46, .ref b47, .ref b48, .ref b49, .ref b50, .ref b51, .ref b52, .ref b53, .ref b54, .ref b55, .ref b56, .ref b57, .ref b58, .ref b59, .ref b60, .ref b61, .ref b62, .ref b63])), (b59, .inl (g.2.1 2, 16, .inr (.inl f62))), (b60, .inl (g.2.1 2, 16, .inr (.inl (lf (stM 4 (t + 1))))))]) X hW 1 rfl (vp_in_nI (by omega) (by decide)) ef62 rfl dX12_ways_172 (fun H locs hW => ?_)
                                        refine lv_iinc (v := nI (i + 1)) (lv' := [(5, .int (nI (i + 1))), (0, .ref h0), (1, .int (nI 4)), (2, .int (nI h)), (3, .int (nI k)), (4, .int (nI t))]) (pc := 173) hx hb dX12_ways_173 hl (k := 5) rfl (nI_1 i) (by decide) rfl (fun ls hl => ?_)
                                        refine lv_goto (tgt := 152) (pc := 176) hx hb dX12_ways_176 rfl ?_
                                        obtain rfl : f62 = lf (cpL (stM 4 t) (stM 4 (t + 1)) (i + 1)) := ef62.symm.trans (by rw [nI_clamp (by omega)]; exact lf_set (by rw [cpL_len, stM_len]; omega))
                                        exact ih5 (i + 1) (by omega) (by omega) _ _ _ hW (lv_sub hl [1, 2, 3, 4, 5, 0] rfl)
                                  exact loop5 17 0 (by omega) (by omega) _ _ _ hW (lv_sub hl [1, 2, 3, 4, 5, 0] rfl)
                                · have hlq : q < 16 := ge_f (k := 16) (by omega) (by omega) c59
                                  refine lv_aload_n (pc := 115) hx hb dX12_ways_115 rfl (lv_at hl 0 rfl) ?_
                                  refine r_get X hW 0 ciX12 59 rfl (by decide) m_1286 rfl rfl dX12_ways_116 ?_
                                  refine lv_iload (pc := 119) hx hb dX12_ways_119 (lv_at hl 5 rfl) ?_
                                  refine r_lald X hW 1 rfl (vp_in_nI (by omega) (by decide)) dX12_ways_121 ?_
                                  refine lv_topl (fun v63 ev63 => ?_)
                                  obtain rfl : v63 = (stM 4 t).getD q 0 := ev63.trans (by rw [nI_clamp (by omega)])
                                  refine lv_lconst (v := 0) (pc := 122) hx hb dX12_ways_122 (by decide) ?_
                                  refine W.lcmp (pc := 123) hx hb dX12_ways_123 ?_
                                  refine lv_if_le (tgt := 143) (pc := 124) hx hb dX12_ways_124 rfl (fun c64 => ?_) (fun c64 => ?_)
                                  · have hpos := (lg_cmp_le _ _).mp c64
                                    rw [show lf (seL 4 (stM 4 t) q) = lf (seL 4 (stM 4 t) (q + 1)) from congrArg lf (if_pos hpos).symm] at hW
                                    refine lv_iinc (v := nI (q + 1)) (lv' := [(5, .int (nI (q + 1))), (0, .ref h0), (1, .int (nI 4)), (2, .int (nI h)), (3, .int (nI k)), (4, .int (nI t))]) (pc := 143) hx hb dX12_ways_143 hl (k := 5) rfl (nI_1 q) (by decide) rfl (fun ls hl => ?_)
                                    refine lv_goto (tgt := 107) (pc := 146) hx hb dX12_ways_146 rfl ?_
                                    exact ih4 (q + 1) (by omega) (by omega) _ _ _ hW (lv_sub hl [1, 2, 3, 4, 5, 0] rfl)
                                  · have hpos := fun z => c64 ((lg_cmp_le _ _).mpr z)
                                    refine lv_aload_n (pc := 127) hx hb dX12_ways_127 rfl (lv_at hl 0 rfl) ?_
                                    refine lv_iload_n (pc := 128) hx hb dX12_ways_128 rfl (lv_at hl 1 rfl) ?_
                                    refine lv_iload (pc := 129) hx hb dX12_ways_129 (lv_at hl 5 rfl) ?_
                                    refine lv_iconst (v := 0) (pc := 131) hx hb dX12_ways_131 (by decide) ?_
                                    refine lv_iconst (v := 0) (pc := 132) hx hb dX12_ways_132 (by decide) ?_
                                    refine lv_aload_n (pc := 133) hx hb dX12_ways_133 rfl (lv_at hl 0 rfl) ?_
                                    refine r_get X hW 0 ciX12 59 rfl (by decide) m_1286 rfl rfl dX12_ways_134 ?_
                                    refine lv_iload (pc := 137) hx hb dX12_ways_137 (lv_at hl 5 rfl) ?_
                                    refine r_lald X hW 1 rfl (vp_in_nI (by omega) (by decide)) dX12_ways_139 ?_
                                    refine lv_topl (fun v65 ev65 => ?_)
                                    obtain rfl : v65 = (stM 4 t).getD q 0 := ev65.trans (by rw [nI_clamp (by omega)])
                                    refine c_Vv (pc := 140) (As := [.int (nI 4), .int (nI q), .int 0, .int 0, .long ((stM 4 t).getD q 0)]) (rest := []) (wr := [(b59, .inl (g.2.1 2, 16, .inr (.inl (lf (stM 4 t)))))]) X hW 0 ciX12 rfl (C_choose_4 l g h0 b1 b6 b7 b8 b9 b10 b11 b12 b13 b14 b15 b16 b17 b21 b22 b23 b24 b25 b26 b28 b29 b30 b31 b32 b33 b34 b35 b36 b46 b47 b48 b49 b50 b51 b52 b53 b54 b55 b56 b57 b58 b59 b60 b61 b62 b63 4 q 0 0 ((stM 4 t).getD q 0) (seL 4 (stM 4 t) q) (by decide) (by omega) (by decide) (seL_len _ _ _) (by decide)) vX12_388 [0, 2] [1] rfl rfl rfl rfl rfl rfl hl.1 rfl (Nat.le_of_ble_eq_true rfl) ⟨Nat.le_of_ble_eq_true rfl, Nat.le_of_ble_eq_true rfl⟩ ⟨Nat.le_of_ble_eq_true rfl, Nat.le_of_ble_eq_true rfl⟩ dX12_ways_140 (fun u9 H locs hq hW => ?_)
                                    obtain rfl := hq
                                    have hW : WD g A s _ _ [(b59, .inl (g.2.1 2, 16, .inr (.inl (lf (stM 4 t))))), (h0, .inr (12, [.int 0, .ref b1, .int 0, .int 0, .int 0, .int 0, .ref b6, .ref b7, .ref b8, .ref b9, .ref b10, .ref b11, .ref b12, .ref b13, .ref b14, .ref b15, .ref b16, .ref b17, .int 0, .int (-1), .int (-1), .ref b21, .ref b22, .ref b23, .ref b24, .ref b25, .ref b26, .int 0, .ref b28, .ref b29, .ref b30, .ref b31, .ref b32, .ref b33, .ref b34, .ref b35, .ref b36, .int 0, .int 0, .int 0, .int 0, .int 0, .int 0, .int 0, .int 0, .int 0, .ref b46, .ref b47, .ref b48, .ref b49, .ref b50, .ref b51, .ref b52, .ref b53, .ref b54, .ref b55, .ref b56, .ref b57, .ref b58, .ref b59, .ref b60, .ref b61, .ref b62, .ref b63])), (b60, .inl (g.2.1 2, 16, .inr (.inl (lf (chL 4 q ((stM 4 t).getD q 0) 4 0 0 (seL 4 (stM 4 t) q))))))] := hW
                                    rw [show lf (chL 4 q ((stM 4 t).getD q 0) 4 0 0 (seL 4 (stM 4 t) q)) = lf (seL 4 (stM 4 t) (q + 1)) from congrArg lf (if_neg hpos).symm] at hW
                                    refine lv_iinc (v := nI (q + 1)) (lv' := [(5, .int (nI (q + 1))), (0, .ref h0), (1, .int (nI 4)), (2, .int (nI h)), (3, .int (nI k)), (4, .int (nI t))]) (pc := 143) hx hb dX12_ways_143 hl (k := 5) rfl (nI_1 q) (by decide) rfl (fun ls hl => ?_)
                                    refine lv_goto (tgt := 107) (pc := 146) hx hb dX12_ways_146 rfl ?_
                                    have hW : WD g A s _ _ [(h0, .inr (12, [.int 0, .ref b1, .int 0, .int 0, .int 0, .int 0, .ref b6, .ref b7, .ref b8, .ref b9, .ref b10, .ref b11, .ref b12, .ref b13, .ref b14, .ref b15, .ref b16, .ref b17, .int 0, .int (-1), .int (-1), .ref b21, .ref b22, .ref b23, .ref b24, .ref b25, .ref b26, .int 0, .ref b28, .ref b29, .ref b30, .ref b31, .ref b32, .ref b33, .ref b34, .ref b35, .ref b36, .int 0, .int 0, .int 0, .int 0, .int 0, .int 0, .int 0, .int 0, .int 0, .ref b46, .ref b47, .ref b48, .ref b49, .ref b50, .ref b51, .ref b52, .ref b53, .ref b54, .ref b55, .ref b56, .ref b57, .ref b58, .ref b59, .ref b60, .ref b61, .ref b62, .ref b63])), (b59, .inl (g.2.1 2, 16, .inr (.inl (lf (stM 4 t))))), (b60, .inl (g.2.1 2, 16, .inr (.inl (lf (seL 4 (stM 4 t) (q + 1))))))] := hW.pick [1, 0, 2] rfl rfl
                                    exact ih4 (q + 1) (by omega) (by omega) _ _ _ hW (lv_sub hl [1, 2, 3, 4, 5, 0] rfl)
                            exact loop4 17 0 (by omega) (by omega) _ _ _ hW (lv_sub hl [1, 2, 3, 4, 5, 0] rfl)
                          · have hli : i < 16 := ge_f (k := 16) (by omega) (by omega) c57
                            refine lv_aload_n (pc := 90) hx hb dX12_ways_90 rfl (lv_at hl 0 rfl) ?_
                            refine r_get X hW 0 ciX12 60 rfl (by decide) m_1287 rfl rfl dX12_ways_91 ?_
                            refine lv_iload (pc := 94) hx hb dX12_ways_94 (lv_at hl 5 rfl) ?_
                            refine lv_lconst (v := 0) (pc := 96) hx hb dX12_ways_96 (by decide) ?_
                            obtain ⟨f66, ef66⟩ : ∃ fz : Nat → Int64, vp_updL (lf (cpL ln z16 i)) (nI i).toNatClampNeg 0 = fz := ⟨_, rfl⟩
                            refine r_last (ws' := [(h0, .inr (12, [.int 0, .ref b1, .int 0, .int 0, .int 0, .int 0, .ref b6, .ref b7, .ref b8, .ref b9, .ref b10, .ref b11, .ref b12, .ref b13, .ref b14, .ref b15, .ref b16, .ref b17, .int 0, .int (-1), .int (-1), .ref b21, .ref b22, .ref b23, .ref b24, .ref b25, .ref b26, .int 0, .ref b28, .ref b29, .ref b30, .ref b31, .ref b32, .ref b33, .ref b34, .ref b35, .ref b36, .int 0, .int 0, .int 0, .int 0, .int 0, .int 0, .int 0, .int 0, .int 0, .ref b46, .ref b47, .ref b48, .ref b49, .ref b50, .ref b51, .ref b52, .ref b53, .ref b54, .ref b55, .ref b56, .ref b57, .ref b58, .ref b59, .ref b60, .ref b61, .ref b62, .ref b63])), (b59, .inl (g.2.1 2, 16, .inr (.inl (lf (stM 4 t))))), (b60, .inl (g.2.1 2, 16, .inr (.inl f66)))]) X hW 2 rfl (vp_in_nI (by omega) (by decide)) ef66 rfl dX12_ways_97 (fun H locs hW => ?_)
                            refine lv_iinc (v := nI (i + 1)) (lv' := [(5, .int (nI (i + 1))), (0, .ref h0), (1, .int (nI 4)), (2, .int (nI h)), (3, .int (nI k)), (4, .int (nI t))]) (pc := 98) hx hb dX12_ways_98 hl (k := 5) rfl (nI_1 i) (by decide) rfl (fun ls hl => ?_)
                            refine lv_goto (tgt := 83) (pc := 101) hx hb dX12_ways_101 rfl ?_
                            obtain rfl : f66 = lf (cpL ln z16 (i + 1)) := ef66.symm.trans (by rw [nI_clamp (by omega), cpL, z16_at]; exact lf_set (by rw [cpL_len, hln]; omega))
                            exact ih3 (i + 1) (by omega) (by omega) _ _ _ hW (lv_sub hl [1, 2, 3, 4, 5, 0] rfl)
                      exact loop3 17 0 (by omega) (by omega) _ _ _ hW (lv_sub hl [1, 2, 3, 4, 5, 0] rfl)
                exact loop2 (h + 1) 0 z16 (by omega) (by omega) rfl _ _ _ hW (lv_sub hl [1, 2, 3, 4, 0] rfl)
              · have hlt : i < 16 := ge_f (k := 16) (by omega) (by omega) c49
                refine lv_aload_n (pc := 47) hx hb dX12_ways_47 rfl (lv_at hl 0 rfl) ?_
                refine r_get X hW 0 ciX12 59 rfl (by decide) m_1286 rfl rfl dX12_ways_48 ?_
                refine lv_iload (pc := 51) hx hb dX12_ways_51 (lv_at hl 4 rfl) ?_
                refine lv_iload (pc := 53) hx hb dX12_ways_53 (lv_at hl 4 rfl) ?_
                refine lv_iconst (v := 1) (pc := 55) hx hb dX12_ways_55 (by decide) ?_
                refine lv_icmp_ne (tgt := 63) (pc := 56) hx hb dX12_ways_56 rfl (fun c67 => ?_) (fun c67 => ?_)
                · have hi1 : ¬ i = 1 := fun q => c67 (congrArg nI q)
                  refine lv_lconst (v := 0) (pc := 63) hx hb dX12_ways_63 (by decide) ?_
                  obtain ⟨f68, ef68⟩ : ∃ fz : Nat → Int64, vp_updL (lf (m0L i)) (nI i).toNatClampNeg 0 = fz := ⟨_, rfl⟩
                  refine r_last (ws' := [(h0, .inr (12, [.int 0, .ref b1, .int 0, .int 0, .int 0, .int 0, .ref b6, .ref b7, .ref b8, .ref b9, .ref b10, .ref b11, .ref b12, .ref b13, .ref b14, .ref b15, .ref b16, .ref b17, .int 0, .int (-1), .int (-1), .ref b21, .ref b22, .ref b23, .ref b24, .ref b25, .ref b26, .int 0, .ref b28, .ref b29, .ref b30, .ref b31, .ref b32, .ref b33, .ref b34, .ref b35, .ref b36, .int 0, .int 0, .int 0, .int 0, .int 0, .int 0, .int 0, .int 0, .int 0, .ref b46, .ref b47, .ref b48, .ref b49, .ref b50, .ref b51, .ref b52, .ref b53, .ref b54, .ref b55, .ref b56, .ref b57, .ref b58, .ref b59, .ref b60, .ref b61, .ref b62, .ref b63])), (b59, .inl (g.2.1 2, 16, .inr (.inl f68))), (b60, .inl (g.2.1 2, 16, .inr (.inl (lf z16))))]) X hW 1 rfl (vp_in_nI (by omega) (by decide)) ef68 rfl dX12_ways_64 (fun H locs hW => ?_)
                  refine lv_iinc (v := nI (i + 1)) (lv' := [(4, .int (nI (i + 1))), (0, .ref h0), (1, .int (nI 4)), (2, .int (nI h)), (3, .int (nI k))]) (pc := 65) hx hb dX12_ways_65 hl (k := 4) rfl (nI_1 i) (by decide) rfl (fun ls hl => ?_)
                  refine lv_goto (tgt := 40) (pc := 68) hx hb dX12_ways_68 rfl ?_
                  obtain rfl : f68 = lf (m0L (i + 1)) := ef68.symm.trans (by rw [nI_clamp (by omega), m0L, if_neg hi1]; exact lf_set (by rw [m0L_len]; omega))
                  exact ih1 (i + 1) (by omega) (by omega) _ _ _ hW (lv_sub hl [1, 2, 3, 4, 0] rfl)
                · have hi1 : i = 1 := (nI_eq (by omega) (by decide)).mp c67
                  refine lv_lconst (v := 1) (pc := 59) hx hb dX12_ways_59 (by decide) ?_
                  refine lv_goto (tgt := 64) (pc := 60) hx hb dX12_ways_60 rfl ?_
                  obtain ⟨f69, ef69⟩ : ∃ fz : Nat → Int64, vp_updL (lf (m0L i)) (nI i).toNatClampNeg 1 = fz := ⟨_, rfl⟩
                  refine r_last (ws' := [(h0, .inr (12, [.int 0, .ref b1, .int 0, .int 0, .int 0, .int 0, .ref b6, .ref b7, .ref b8, .ref b9, .ref b10, .ref b11, .ref b12, .ref b13, .ref b14, .ref b15, .ref b16, .ref b17, .int 0, .int (-1), .int (-1), .ref b21, .ref b22, .ref b23, .ref b24, .ref b25, .ref b26, .int 0, .ref b28, .ref b29, .ref b30, .ref b31, .ref b32, .ref b33, .ref b34, .ref b35, .ref b36, .int 0, .int 0, .int 0, .int 0, .int 0, .int 0, .int 0, .int 0, .int 0, .ref b46, .ref b47, .ref b48, .ref b49, .ref b50, .ref b51, .ref b52, .ref b53, .ref b54, .ref b55, .ref b56, .ref b57, .ref b58, .ref b59, .ref b60, .ref b61, .ref b62, .ref b63])), (b59, .inl (g.2.1 2, 16, .inr (.inl f69))), (b60, .inl (g.2.1 2, 16, .inr (.inl (lf z16))))]) X hW 1 rfl (vp_in_nI (by omega) (by decide)) ef69 rfl dX12_ways_64 (fun H locs hW => ?_)
                  refine lv_iinc (v := nI (i + 1)) (lv' := [(4, .int (nI (i + 1))), (0, .ref h0), (1, .int (nI 4)), (2, .int (nI h)), (3, .int (nI k))]) (pc := 65) hx hb dX12_ways_65 hl (k := 4) rfl (nI_1 i) (by decide) rfl (fun ls hl => ?_)
                  refine lv_goto (tgt := 40) (pc := 68) hx hb dX12_ways_68 rfl ?_
                  obtain rfl : f69 = lf (m0L (i + 1)) := ef69.symm.trans (by rw [nI_clamp (by omega), m0L, if_pos hi1]; exact lf_set (by rw [m0L_len]; omega))
                  exact ih1 (i + 1) (by omega) (by omega) _ _ _ hW (lv_sub hl [1, 2, 3, 4, 0] rfl)
          exact loop1 17 0 (by omega) (by omega) _ _ _ hW (lv_sub hl [1, 2, 3, 4, 0] rfl)
      · refine lv_ldc2 (pc := 33) hx hb X.2.2.2.1 (X.2.2.2.2.1 _ m_1759) dX12_ways_33 ?_
        exact e_l X hQ hr hW (u := []) [] rfl rfl (⟨(wv_no (fun h9 => by obtain ⟨q1, q2, q3, q4, q5, q6⟩ := h9; rcases inv3_0 c6 with h8 | h8 <;> first | exact q1 h8 | exact q2 h8 | exact q3 h8 | exact q4 h8 | exact q5 h8 | exact q6 h8)).symm, rfl⟩) ⟨Nat.le_of_ble_eq_true rfl, Nat.le_of_ble_eq_true rfl⟩ dX12_ways_36

/-- the ways to know: the class counts how many know, the reference the sets of those that know -/
abbrev lf (l : List Int64) : Nat → Int64 := fun j => l.getD j 0
theorem lf_set {l : List Int64} {i : Nat} {x : Int64} (h : i < l.length) : vp_updL (lf l) i x = lf (l.set i x) := by
  funext j
  simp only [vp_updL, lf, List.getD_eq_getElem?_getD, List.getElem?_set]
  by_cases q : j = i
  · subst q; simp [h]
  · rw [if_neg q, if_neg (fun z => q z.symm)]
theorem lf_out {l : List Int64} {N : Nat} (h : l.length = N) : ∀ j, N ≤ j → lf l j = 0 := fun j hj => by
  simp only [lf, List.getD_eq_getElem?_getD]
  rw [List.getElem?_eq_none (by omega)]
  rfl
def z5 : List Int64 := [0, 0, 0, 0, 0]
def z16 : List Int64 := [0, 0, 0, 0, 0, 0, 0, 0, 0, 0, 0, 0, 0, 0, 0, 0]
theorem z5_of {f f' : Nat → Int64} (h0 : ∀ j, 5 ≤ j → f j = 0) (h : ∀ j, f' j = if j < 5 then 0 else f j) : f' = lf z5 := by
  funext j
  rw [h]
  by_cases q : j < 5
  · rw [if_pos q]
    rcases (show j = 0 ∨ j = 1 ∨ j = 2 ∨ j = 3 ∨ j = 4 by omega) with rfl | rfl | rfl | rfl | rfl <;> rfl
  · rw [if_neg q, h0 j (by omega), lf_out (N := 5) rfl j (by omega)]
theorem z16_fn : (fun _ => 0) = lf z16 := by
  funext j
  by_cases q : j < 16
  · rcases (show j = 0 ∨ j = 1 ∨ j = 2 ∨ j = 3 ∨ j = 4 ∨ j = 5 ∨ j = 6 ∨ j = 7 ∨ j = 8 ∨ j = 9 ∨ j = 10 ∨ j = 11 ∨ j = 12 ∨ j = 13 ∨ j = 14 ∨ j = 15 by omega) with rfl | rfl | rfl | rfl | rfl | rfl | rfl | rfl | rfl | rfl | rfl | rfl | rfl | rfl | rfl | rfl <;> rfl
  · rw [lf_out (N := 16) rfl j (by omega)]
def othN (o p : Nat) : Nat := if p < o then p else p + 1
theorem oth_n {o p : Nat} (ho : o < 2 ^ 31) (hp : p < 2 ^ 31) : oth (nI o) (nI p) = nI (othN o p) := by
  unfold oth othN
  by_cases h : p < o
  · rw [if_pos ((nI_ltI hp ho).mpr h), if_pos h]
  · rw [if_neg (fun q => h ((nI_ltI hp ho).mp q)), if_neg h, nI_1]
def pw (b : Nat) : Nat → Nat
  | 0 => 1
  | i + 1 => pw b i * b
theorem pw81 : ∀ n, n < 5 → ∀ k, k < 5 → pw (n - 1) k ≤ 81 := by decide +kernel
def pop4 (k : Nat) : Nat := k % 2 + k / 2 % 2 + k / 4 % 2 + k / 8 % 2
theorem pop4_le : ∀ k, k < 16 → pop4 k ≤ 4 := by decide +kernel
def gk (n kw c : Nat) : Nat → Nat × Nat
  | 0 => (2 ^ kw - 1, c)
  | o + 1 => ((gk n kw c o).1 ||| 2 ^ othN o ((gk n kw c o).2 % (n - 1)), (gk n kw c o).2 / (n - 1))
theorem p2_16 : ∀ k, k < 5 → 2 ^ k - 1 < 16 := by decide +kernel
theorem p2_4 : ∀ k, k < 4 → 2 ^ k < 16 := by decide +kernel
theorem oth_4 {n o p : Nat} (hn : 2 ≤ n) (hn4 : n ≤ 4) (ho : o < 4) (hp : p < n - 1) : othN o p < 4 := by
  unfold othN; split <;> omega
theorem gk_in {n kw c : Nat} (hn : 2 ≤ n) (hn4 : n ≤ 4) (hk : kw ≤ 4) : ∀ o, o ≤ 4 → (gk n kw c o).1 < 16 ∧ (gk n kw c o).2 ≤ c := by
  intro o
  induction o with
  | zero => exact fun _ => ⟨p2_16 kw (by omega), Nat.le_refl c⟩
  | succ o ih =>
    intro ho
    obtain ⟨h1, h2⟩ := ih (by omega)
    exact ⟨Nat.or_lt_two_pow (n := 4) h1 (p2_4 _ (oth_4 hn hn4 (by omega) (Nat.mod_lt _ (by omega)))), Nat.le_trans (Nat.div_le_self _ _) h2⟩
def goL (n kw : Nat) (x : Int64) (l : List Int64) : Nat → List Int64
  | 0 => l
  | c + 1 => (goL n kw x l c).set (pop4 (gk n kw c kw).1) ((goL n kw x l c).getD (pop4 (gk n kw c kw).1) 0 + x)
theorem goL_len (n kw : Nat) (x : Int64) (l : List Int64) : ∀ c, (goL n kw x l c).length = l.length := by
  intro c
  induction c with
  | zero => rfl
  | succ c ih => rw [goL, List.length_set, ih]
def hcL (n : Nat) (la : List Int64) : Nat → List Int64
  | 0 => z5
  | k + 1 => if la.getD (k + 1) 0 = 0 then hcL n la k else goL n (k + 1) (la.getD (k + 1) 0 * lN (pw (n - 1) (n - (k + 1)))) (hcL n la k) (pw (n - 1) (k + 1))
theorem hcL_len (n : Nat) (la : List Int64) : ∀ k, (hcL n la k).length = 5 := by
  intro k
  induction k with
  | zero => rfl
  | succ k ih =>
    rw [hcL]
    split
    · exact ih
    · rw [goL_len, ih]
def stC (n : Nat) : Nat → List Int64
  | 0 => [0, 1, 0, 0, 0]
  | t + 1 => hcL n (stC n t) n
theorem stC_len (n t : Nat) : (stC n t).length = 5 := by
  cases t with
  | zero => rfl
  | succ t => exact hcL_len n _ n
theorem lf01 {f : Nat → Int64} (h : vp_updL (lf z5) (1 : Int32).toNatClampNeg 1 = f) : f = lf [0, 1, 0, 0, 0] := by
  rw [← h, show (1 : Int32).toNatClampNeg = 1 by decide, lf_set (by decide)]
  rfl
-- the bits of a number, as the class Integer counts them
def us (x k : Int32) : Int32 := (x.toUInt32 >>> (k.toUInt32 &&& Int32.toUInt32 31)).toInt32
def bc1 (x : Int32) : Int32 := x - (us x 1 &&& 1431655765)
def bc2 (x : Int32) : Int32 := (x &&& 858993459) + (us x 2 &&& 858993459)
def bc3 (x : Int32) : Int32 := (x + us x 4) &&& 252645135
def bc4 (x : Int32) : Int32 := x + us x 8
def bc5 (x : Int32) : Int32 := x + us x 16
def bcv (x : Int32) : Int32 := bc5 (bc4 (bc3 (bc2 (bc1 x)))) &&& 63
theorem bc_n : ∀ k, k < 16 → bcv (nI k) = nI (pop4 k) := by decide +kernel
-- small words
theorem shl_n : ∀ k, k < 5 → (1 : Int32) <<< (nI k &&& 31) = nI (2 ^ k) := by decide +kernel
theorem shr_n : ∀ kw, kw < 16 → ∀ f, f < 4 → nI kw >>> (nI f &&& 31) = nI (kw / 2 ^ f) := by decide +kernel
theorem and_1 : ∀ k, k < 16 → nI k &&& 1 = nI (k % 2) := by decide +kernel
-- the reference
def chO (st : Nat → List Int64 → List Int64) (fr : Nat) : Nat → List Int64 → List Int64
  | 0, l => l
  | o + 1, l => if o = fr then chO st fr o l else st o (chO st fr o l)
def chL (n kw : Nat) (x : Int64) : Nat → Nat → Nat → List Int64 → List Int64
  | 0, _, ca, l => l.set (kw ||| ca) (l.getD (kw ||| ca) 0 + x)
  | r + 1, fr, ca, l => chO (fun o l => chL n kw x r (fr + 1) (if kw / 2 ^ fr % 2 = 1 then ca ||| 2 ^ o else ca) l) fr n l
theorem chO_len {st : Nat → List Int64 → List Int64} (fr : Nat) {l : List Int64} (h : ∀ o l, (st o l).length = l.length) : ∀ o, (chO st fr o l).length = l.length := by
  intro o
  induction o with
  | zero => rfl
  | succ o ih =>
    rw [chO]
    split
    · exact ih
    · rw [h, ih]
theorem chL_len (n kw : Nat) (x : Int64) : ∀ (r fr ca : Nat) (l : List Int64), (chL n kw x r fr ca l).length = l.length := by
  intro r
  induction r with
  | zero => intro fr ca l; rw [chL, List.length_set]
  | succ r ih => intro fr ca l; rw [chL, chO_len fr (fun o l => ih _ _ l)]
def seL (n : Nat) (la : List Int64) : Nat → List Int64
  | 0 => z16
  | q + 1 => if la.getD q 0 ≤ 0 then seL n la q else chL n q (la.getD q 0) n 0 0 (seL n la q)
theorem seL_len (n : Nat) (la : List Int64) : ∀ q, (seL n la q).length = 16 := by
  intro q
  induction q with
  | zero => rfl
  | succ q ih =>
    rw [seL]
    split
    · exact ih
    · rw [chL_len, ih]
def m0L : Nat → List Int64
  | 0 => z16
  | i + 1 => (m0L i).set i (if i = 1 then 1 else 0)
theorem m0L_len : ∀ i, (m0L i).length = 16 := by
  intro i
  induction i with
  | zero => rfl
  | succ i ih => rw [m0L, List.length_set, ih]
def stM (n : Nat) : Nat → List Int64
  | 0 => m0L 16
  | t + 1 => seL n (stM n t) (2 ^ n)
theorem stM_len (n t : Nat) : (stM n t).length = 16 := by
  cases t with
  | zero => rfl
  | succ t => exact seL_len n _ _
/-- cell by cell from another list -/
def cpL (la lb : List Int64) : Nat → List Int64
  | 0 => la
  | i + 1 => (cpL la lb i).set i (lb.getD i 0)
theorem cpL_len (la lb : List Int64) : ∀ i, (cpL la lb i).length = la.length := by
  intro i
  induction i with
  | zero => rfl
  | succ i ih => rw [cpL, List.length_set, ih]
theorem cpL_at (la lb : List Int64) : ∀ i, i ≤ la.length → ∀ j, j < i → (cpL la lb i).getD j 0 = lb.getD j 0 := by
  intro i
  induction i with
  | zero => intro _ j hj; exact absurd hj (by omega)
  | succ i ih =>
    intro hi j hj
    have hs : i < (cpL la lb i).length := by rw [cpL_len]; omega
    have h := congrFun (lf_set (l := cpL la lb i) (i := i) (x := lb.getD i 0) hs) j
    rw [cpL]
    refine h.symm.trans ?_
    unfold vp_updL
    by_cases q : j = i
    · rw [if_pos q, q]
    · rw [if_neg q]; exact ih (by omega) j (by omega)
theorem cpL_all {la lb : List Int64} {N : Nat} (ha : la.length = N) (hb : lb.length = N) : lf (cpL la lb N) = lf lb := by
  funext j
  by_cases q : j < N
  · exact cpL_at la lb N (by omega) j q
  · rw [lf_out (N := N) ((cpL_len la lb N).trans ha) j (by omega), lf_out hb j (by omega)]
theorem z16_at (j : Nat) : z16.getD j 0 = 0 := (congrFun z16_fn j).symm
def smM (l : List Int64) (k : Nat) : Nat → Int64
  | 0 => 0
  | i + 1 => smM l k i + (if pop4 i = k then l.getD i 0 else 0)
theorem tC_2_0 : stC 2 0 = [0, 1, 0, 0, 0] := by decide +kernel
theorem tM_2_0 : stM 2 0 = [0, 1, 0, 0, 0, 0, 0, 0, 0, 0, 0, 0, 0, 0, 0, 0] := by decide +kernel
theorem tC_2_1 : stC 2 1 = [0, 0, 1, 0, 0] := by rw [stC, tC_2_0]; decide +kernel
theorem tM_2_1 : stM 2 1 = [0, 0, 0, 1, 0, 0, 0, 0, 0, 0, 0, 0, 0, 0, 0, 0] := by rw [stM, tM_2_0]; decide +kernel
theorem tC_2_2 : stC 2 2 = [0, 0, 1, 0, 0] := by rw [stC, tC_2_1]; decide +kernel
theorem tM_2_2 : stM 2 2 = [0, 0, 0, 1, 0, 0, 0, 0, 0, 0, 0, 0, 0, 0, 0, 0] := by rw [stM, tM_2_1]; decide +kernel
theorem tC_2_3 : stC 2 3 = [0, 0, 1, 0, 0] := by rw [stC, tC_2_2]; decide +kernel
theorem tM_2_3 : stM 2 3 = [0, 0, 0, 1, 0, 0, 0, 0, 0, 0, 0, 0, 0, 0, 0, 0] := by rw [stM, tM_2_2]; decide +kernel
theorem tC_2_4 : stC 2 4 = [0, 0, 1, 0, 0] := by rw [stC, tC_2_3]; decide +kernel
theorem tM_2_4 : stM 2 4 = [0, 0, 0, 1, 0, 0, 0, 0, 0, 0, 0, 0, 0, 0, 0, 0] := by rw [stM, tM_2_3]; decide +kernel
theorem tC_2_5 : stC 2 5 = [0, 0, 1, 0, 0] := by rw [stC, tC_2_4]; decide +kernel
theorem tM_2_5 : stM 2 5 = [0, 0, 0, 1, 0, 0, 0, 0, 0, 0, 0, 0, 0, 0, 0, 0] := by rw [stM, tM_2_4]; decide +kernel
theorem tC_2_6 : stC 2 6 = [0, 0, 1, 0, 0] := by rw [stC, tC_2_5]; decide +kernel
theorem tM_2_6 : stM 2 6 = [0, 0, 0, 1, 0, 0, 0, 0, 0, 0, 0, 0, 0, 0, 0, 0] := by rw [stM, tM_2_5]; decide +kernel
theorem tC_2_7 : stC 2 7 = [0, 0, 1, 0, 0] := by rw [stC, tC_2_6]; decide +kernel
theorem tM_2_7 : stM 2 7 = [0, 0, 0, 1, 0, 0, 0, 0, 0, 0, 0, 0, 0, 0, 0, 0] := by rw [stM, tM_2_6]; decide +kernel
theorem tC_2_8 : stC 2 8 = [0, 0, 1, 0, 0] := by rw [stC, tC_2_7]; decide +kernel
theorem tM_2_8 : stM 2 8 = [0, 0, 0, 1, 0, 0, 0, 0, 0, 0, 0, 0, 0, 0, 0, 0] := by rw [stM, tM_2_7]; decide +kernel
theorem tC_3_0 : stC 3 0 = [0, 1, 0, 0, 0] := by decide +kernel
theorem tM_3_0 : stM 3 0 = [0, 1, 0, 0, 0, 0, 0, 0, 0, 0, 0, 0, 0, 0, 0, 0] := by decide +kernel
theorem tC_3_1 : stC 3 1 = [0, 0, 8, 0, 0] := by rw [stC, tC_3_0]; decide +kernel
theorem tM_3_1 : stM 3 1 = [0, 0, 0, 4, 0, 4, 0, 0, 0, 0, 0, 0, 0, 0, 0, 0] := by rw [stM, tM_3_0]; decide +kernel
theorem tC_3_2 : stC 3 2 = [0, 0, 16, 48, 0] := by rw [stC, tC_3_1]; decide +kernel
theorem tM_3_2 : stM 3 2 = [0, 0, 0, 8, 0, 8, 0, 48, 0, 0, 0, 0, 0, 0, 0, 0] := by rw [stM, tM_3_1]; decide +kernel
theorem tC_3_3 : stC 3 3 = [0, 0, 32, 480, 0] := by rw [stC, tC_3_2]; decide +kernel
theorem tM_3_3 : stM 3 3 = [0, 0, 0, 16, 0, 16, 0, 480, 0, 0, 0, 0, 0, 0, 0, 0] := by rw [stM, tM_3_2]; decide +kernel
theorem tC_3_4 : stC 3 4 = [0, 0, 64, 4032, 0] := by rw [stC, tC_3_3]; decide +kernel
theorem tM_3_4 : stM 3 4 = [0, 0, 0, 32, 0, 32, 0, 4032, 0, 0, 0, 0, 0, 0, 0, 0] := by rw [stM, tM_3_3]; decide +kernel
theorem tC_3_5 : stC 3 5 = [0, 0, 128, 32640, 0] := by rw [stC, tC_3_4]; decide +kernel
theorem tM_3_5 : stM 3 5 = [0, 0, 0, 64, 0, 64, 0, 32640, 0, 0, 0, 0, 0, 0, 0, 0] := by rw [stM, tM_3_4]; decide +kernel
theorem tC_3_6 : stC 3 6 = [0, 0, 256, 261888, 0] := by rw [stC, tC_3_5]; decide +kernel
theorem tM_3_6 : stM 3 6 = [0, 0, 0, 128, 0, 128, 0, 261888, 0, 0, 0, 0, 0, 0, 0, 0] := by rw [stM, tM_3_5]; decide +kernel
theorem tC_3_7 : stC 3 7 = [0, 0, 512, 2096640, 0] := by rw [stC, tC_3_6]; decide +kernel
theorem tM_3_7 : stM 3 7 = [0, 0, 0, 256, 0, 256, 0, 2096640, 0, 0, 0, 0, 0, 0, 0, 0] := by rw [stM, tM_3_6]; decide +kernel
theorem tC_3_8 : stC 3 8 = [0, 0, 1024, 16776192, 0] := by rw [stC, tC_3_7]; decide +kernel
theorem tM_3_8 : stM 3 8 = [0, 0, 0, 512, 0, 512, 0, 16776192, 0, 0, 0, 0, 0, 0, 0, 0] := by rw [stM, tM_3_7]; decide +kernel
theorem tC_4_0 : stC 4 0 = [0, 1, 0, 0, 0] := by decide +kernel
theorem tM_4_0 : stM 4 0 = [0, 1, 0, 0, 0, 0, 0, 0, 0, 0, 0, 0, 0, 0, 0, 0] := by decide +kernel
theorem tC_4_1 : stC 4 1 = [0, 0, 81, 0, 0] := by rw [stC, tC_4_0]; decide +kernel
theorem tM_4_1 : stM 4 1 = [0, 0, 0, 27, 0, 27, 0, 0, 0, 27, 0, 0, 0, 0, 0, 0] := by rw [stM, tM_4_0]; decide +kernel
theorem tC_4_2 : stC 4 2 = [0, 0, 729, 4374, 1458] := by rw [stC, tC_4_1]; decide +kernel
theorem tM_4_2 : stM 4 2 = [0, 0, 0, 243, 0, 243, 0, 1458, 0, 243, 0, 1458, 0, 1458, 0, 1458] := by rw [stM, tM_4_1]; decide +kernel
theorem tC_4_3 : stC 4 3 = [0, 0, 6561, 144342, 380538] := by rw [stC, tC_4_2]; decide +kernel
theorem tM_4_3 : stM 4 3 = [0, 0, 0, 2187, 0, 2187, 0, 48114, 0, 2187, 0, 48114, 0, 48114, 0, 380538] := by rw [stM, tM_4_2]; decide +kernel
theorem tC_4_4 : stC 4 4 = [0, 0, 59049, 3818502, 39169170] := by rw [stC, tC_4_3]; decide +kernel
theorem tM_4_4 : stM 4 4 = [0, 0, 0, 19683, 0, 19683, 0, 1272834, 0, 19683, 0, 1272834, 0, 1272834, 0, 39169170] := by rw [stM, tM_4_3]; decide +kernel
theorem tC_4_5 : stC 4 5 = [0, 0, 531441, 94832694, 3391420266] := by rw [stC, tC_4_4]; decide +kernel
theorem tM_4_5 : stM 4 5 = [0, 0, 0, 177147, 0, 177147, 0, 31610898, 0, 177147, 0, 31610898, 0, 31610898, 0, 3391420266] := by rw [stM, tM_4_4]; decide +kernel
theorem tC_4_6 : stC 4 6 = [0, 0, 4782969, 2304682470, 280120071042] := by rw [stC, tC_4_5]; decide +kernel
theorem tM_4_6 : stM 4 6 = [0, 0, 0, 1594323, 0, 1594323, 0, 768227490, 0, 1594323, 0, 768227490, 0, 768227490, 0, 280120071042] := by rw [stM, tM_4_5]; decide +kernel
theorem tC_4_7 : stC 4 7 = [0, 0, 43046721, 55570659606, 22821178748634] := by rw [stC, tC_4_6]; decide +kernel
theorem tM_4_7 : stM 4 7 = [0, 0, 0, 14348907, 0, 14348907, 0, 18523553202, 0, 14348907, 0, 18523553202, 0, 18523553202, 0, 22821178748634] := by rw [stM, tM_4_6]; decide +kernel
theorem tC_4_8 : stC 4 8 = [0, 0, 387420489, 1336020353478, 1851683781077874] := by rw [stC, tC_4_7]; decide +kernel
theorem tM_4_8 : stM 4 8 = [0, 0, 0, 129140163, 0, 129140163, 0, 445340117826, 0, 129140163, 0, 445340117826, 0, 445340117826, 0, 1851683781077874] := by rw [stM, tM_4_7]; decide +kernel
theorem fin_w {n h k : Nat} (hn : 2 ≤ n) (hn4 : n ≤ 4) (hh1 : 1 ≤ h) (hh : h ≤ 8) (hk1 : 1 ≤ k) (hk : k ≤ n) : smM (stM n h) k 16 = (stC n h).getD k 0 := by
  rcases (show n = 2 ∨ n = 3 ∨ n = 4 by omega) with rfl | rfl | rfl
  · rcases (show h = 1 ∨ h = 2 ∨ h = 3 ∨ h = 4 ∨ h = 5 ∨ h = 6 ∨ h = 7 ∨ h = 8 by omega) with rfl | rfl | rfl | rfl | rfl | rfl | rfl | rfl
    · rw [tC_2_1, tM_2_1]; rcases (show k = 1 ∨ k = 2 by omega) with rfl | rfl <;> decide +kernel
    · rw [tC_2_2, tM_2_2]; rcases (show k = 1 ∨ k = 2 by omega) with rfl | rfl <;> decide +kernel
    · rw [tC_2_3, tM_2_3]; rcases (show k = 1 ∨ k = 2 by omega) with rfl | rfl <;> decide +kernel
    · rw [tC_2_4, tM_2_4]; rcases (show k = 1 ∨ k = 2 by omega) with rfl | rfl <;> decide +kernel
    · rw [tC_2_5, tM_2_5]; rcases (show k = 1 ∨ k = 2 by omega) with rfl | rfl <;> decide +kernel
    · rw [tC_2_6, tM_2_6]; rcases (show k = 1 ∨ k = 2 by omega) with rfl | rfl <;> decide +kernel
    · rw [tC_2_7, tM_2_7]; rcases (show k = 1 ∨ k = 2 by omega) with rfl | rfl <;> decide +kernel
    · rw [tC_2_8, tM_2_8]; rcases (show k = 1 ∨ k = 2 by omega) with rfl | rfl <;> decide +kernel
  · rcases (show h = 1 ∨ h = 2 ∨ h = 3 ∨ h = 4 ∨ h = 5 ∨ h = 6 ∨ h = 7 ∨ h = 8 by omega) with rfl | rfl | rfl | rfl | rfl | rfl | rfl | rfl
    · rw [tC_3_1, tM_3_1]; rcases (show k = 1 ∨ k = 2 ∨ k = 3 by omega) with rfl | rfl | rfl <;> decide +kernel
    · rw [tC_3_2, tM_3_2]; rcases (show k = 1 ∨ k = 2 ∨ k = 3 by omega) with rfl | rfl | rfl <;> decide +kernel
    · rw [tC_3_3, tM_3_3]; rcases (show k = 1 ∨ k = 2 ∨ k = 3 by omega) with rfl | rfl | rfl <;> decide +kernel
    · rw [tC_3_4, tM_3_4]; rcases (show k = 1 ∨ k = 2 ∨ k = 3 by omega) with rfl | rfl | rfl <;> decide +kernel
    · rw [tC_3_5, tM_3_5]; rcases (show k = 1 ∨ k = 2 ∨ k = 3 by omega) with rfl | rfl | rfl <;> decide +kernel
    · rw [tC_3_6, tM_3_6]; rcases (show k = 1 ∨ k = 2 ∨ k = 3 by omega) with rfl | rfl | rfl <;> decide +kernel
    · rw [tC_3_7, tM_3_7]; rcases (show k = 1 ∨ k = 2 ∨ k = 3 by omega) with rfl | rfl | rfl <;> decide +kernel
    · rw [tC_3_8, tM_3_8]; rcases (show k = 1 ∨ k = 2 ∨ k = 3 by omega) with rfl | rfl | rfl <;> decide +kernel
  · rcases (show h = 1 ∨ h = 2 ∨ h = 3 ∨ h = 4 ∨ h = 5 ∨ h = 6 ∨ h = 7 ∨ h = 8 by omega) with rfl | rfl | rfl | rfl | rfl | rfl | rfl | rfl
    · rw [tC_4_1, tM_4_1]; rcases (show k = 1 ∨ k = 2 ∨ k = 3 ∨ k = 4 by omega) with rfl | rfl | rfl | rfl <;> decide +kernel
    · rw [tC_4_2, tM_4_2]; rcases (show k = 1 ∨ k = 2 ∨ k = 3 ∨ k = 4 by omega) with rfl | rfl | rfl | rfl <;> decide +kernel
    · rw [tC_4_3, tM_4_3]; rcases (show k = 1 ∨ k = 2 ∨ k = 3 ∨ k = 4 by omega) with rfl | rfl | rfl | rfl <;> decide +kernel
    · rw [tC_4_4, tM_4_4]; rcases (show k = 1 ∨ k = 2 ∨ k = 3 ∨ k = 4 by omega) with rfl | rfl | rfl | rfl <;> decide +kernel
    · rw [tC_4_5, tM_4_5]; rcases (show k = 1 ∨ k = 2 ∨ k = 3 ∨ k = 4 by omega) with rfl | rfl | rfl | rfl <;> decide +kernel
    · rw [tC_4_6, tM_4_6]; rcases (show k = 1 ∨ k = 2 ∨ k = 3 ∨ k = 4 by omega) with rfl | rfl | rfl | rfl <;> decide +kernel
    · rw [tC_4_7, tM_4_7]; rcases (show k = 1 ∨ k = 2 ∨ k = 3 ∨ k = 4 by omega) with rfl | rfl | rfl | rfl <;> decide +kernel
    · rw [tC_4_8, tM_4_8]; rcases (show k = 1 ∨ k = 2 ∨ k = 3 ∨ k = 4 by omega) with rfl | rfl | rfl | rfl <;> decide +kernel
theorem rng {x : Int32} {a b : Nat} (hb : b < 2 ^ 30) (hab : a ≤ b) (h1 : ¬ x < nI a) (h2 : ¬ nI b < x) : ∃ n, a ≤ n ∧ n ≤ b ∧ x = nI n := by
  have k1 := fa_of_nlt h1
  have k2 := fa_of_nlt h2
  rw [fa_le, nI_toInt (by omega)] at k1 k2
  obtain ⟨j, hj, rfl⟩ := vp_in_of ((vp_in_iff (x := x) (n := b + 1)).mpr ⟨by omega, by omega⟩) (by omega)
  exact ⟨j, lt_f (i := j) (k := a) (by omega) (by omega) h1, by omega, rfl⟩
abbrev wOk (a b c : Int32) : Prop := ¬ a < 2 ∧ ¬ 4 < a ∧ ¬ b < 1 ∧ ¬ 8 < b ∧ ¬ c < 1 ∧ ¬ a < c
def wv (a b c : Int32) : Int64 := if wOk a b c then (stC a.toNatClampNeg b.toNatClampNeg).getD c.toNatClampNeg 0 else -1
theorem wv_no {a b c : Int32} (h : ¬ wOk a b c) : wv a b c = -1 := if_neg h
theorem wv_n {n h k : Nat} (hn : n ≤ 4) (hh : h ≤ 8) (hk : k ≤ n) (ok : wOk (nI n) (nI h) (nI k)) : wv (nI n) (nI h) (nI k) = (stC n h).getD k 0 := by
  rw [wv, if_pos ok, nI_clamp (by omega), nI_clamp (by omega), nI_clamp (by omega)]
theorem w_ok {a b c : Int32} (ok : wOk a b c) : ∃ n h k, 2 ≤ n ∧ n ≤ 4 ∧ 1 ≤ h ∧ h ≤ 8 ∧ 1 ≤ k ∧ k ≤ n ∧ a = nI n ∧ b = nI h ∧ c = nI k ∧ wv a b c = (stC n h).getD k 0 := by
  obtain ⟨h1, h2, h3, h4, h5, h6⟩ := id ok
  obtain ⟨n, n1, n2, rfl⟩ := rng (a := 2) (b := 4) (by decide) (by decide) h1 h2
  obtain ⟨h, q1, q2, rfl⟩ := rng (a := 1) (b := 8) (by decide) (by decide) h3 h4
  obtain ⟨k, k1, k2, rfl⟩ := rng (a := 1) (b := n) (by omega) (by omega) h5 h6
  exact ⟨n, h, k, n1, n2, q1, q2, k1, k2, rfl, rfl, rfl, wv_n n2 q2 k2 ok⟩
theorem m_1089 : (Cond.code yX2_power prog_4_method_4_code 5 (Option.some FieldType.long)) ∈ BW := bw (tb5 129 rfl) (by decide +kernel)
theorem dX2_power_0 : decode cX2_power 0 = .ok (.lconst 1, 1) := DX2_power _ _ _ rfl
theorem dX2_power_1 : decode cX2_power 1 = .ok (.lstore_n 2, 1) := DX2_power _ _ _ rfl
theorem dX2_power_2 : decode cX2_power 2 = .ok (.iconst 0, 1) := DX2_power _ _ _ rfl
theorem dX2_power_3 : decode cX2_power 3 = .ok (.istore 4, 2) := DX2_power _ _ _ rfl
theorem dX2_power_5 : decode cX2_power 5 = .ok (.iload 4, 2) := DX2_power _ _ _ rfl
theorem dX2_power_7 : decode cX2_power 7 = .ok (.iload_n 1, 1) := DX2_power _ _ _ rfl
theorem dX2_power_8 : decode cX2_power 8 = .ok (.if_icmp .ge 14, 3) := DX2_power _ _ _ rfl
theorem dX2_power_22 : decode cX2_power 22 = .ok (.lload_n 2, 1) := DX2_power _ _ _ rfl
theorem dX2_power_23 : decode cX2_power 23 = .ok (.lreturn, 1) := DX2_power _ _ _ rfl
theorem dX2_power_11 : decode cX2_power 11 = .ok (.lload_n 2, 1) := DX2_power _ _ _ rfl
theorem dX2_power_12 : decode cX2_power 12 = .ok (.iload_n 0, 1) := DX2_power _ _ _ rfl
theorem dX2_power_13 : decode cX2_power 13 = .ok (.i2l, 1) := DX2_power _ _ _ rfl
theorem dX2_power_14 : decode cX2_power 14 = .ok (.lmul, 1) := DX2_power _ _ _ rfl
theorem dX2_power_15 : decode cX2_power 15 = .ok (.lstore_n 2, 1) := DX2_power _ _ _ rfl
theorem dX2_power_16 : decode cX2_power 16 = .ok (.iinc 4 1, 3) := DX2_power _ _ _ rfl
theorem dX2_power_19 : decode cX2_power 19 = .ok (.goto (-14), 3) := DX2_power _ _ _ rfl
theorem m_811 : (Cond.code yJ6_bitCount_0f7a4 prog_17_method_49_code 1 (Option.some FieldType.int)) ∈ BW := bw (tb4 91 rfl) (by decide +kernel)
theorem dJ6_bitCount_0f7a4_0 : decode cJ6_bitCount_0f7a4 0 = .ok (.iload_n 0, 1) := DJ6_bitCount_0f7a4 _ _ _ rfl
theorem dJ6_bitCount_0f7a4_1 : decode cJ6_bitCount_0f7a4 1 = .ok (.iload_n 0, 1) := DJ6_bitCount_0f7a4 _ _ _ rfl
theorem dJ6_bitCount_0f7a4_2 : decode cJ6_bitCount_0f7a4 2 = .ok (.iconst 1, 1) := DJ6_bitCount_0f7a4 _ _ _ rfl
theorem dJ6_bitCount_0f7a4_3 : decode cJ6_bitCount_0f7a4 3 = .ok (.iushr, 1) := DJ6_bitCount_0f7a4 _ _ _ rfl
theorem m_812 : (Cond.constant "java/lang/Integer" 265 (1431655765 : Int32)) ∈ BW := bw (tb4 92 (by decide +kernel)) (by decide +kernel)
theorem dJ6_bitCount_0f7a4_4 : decode cJ6_bitCount_0f7a4 4 = .ok (.ldc_w 265, 3) := DJ6_bitCount_0f7a4 _ _ _ rfl
theorem dJ6_bitCount_0f7a4_7 : decode cJ6_bitCount_0f7a4 7 = .ok (.iand, 1) := DJ6_bitCount_0f7a4 _ _ _ rfl
theorem dJ6_bitCount_0f7a4_8 : decode cJ6_bitCount_0f7a4 8 = .ok (.isub, 1) := DJ6_bitCount_0f7a4 _ _ _ rfl
theorem dJ6_bitCount_0f7a4_9 : decode cJ6_bitCount_0f7a4 9 = .ok (.istore_n 0, 1) := DJ6_bitCount_0f7a4 _ _ _ rfl
theorem dJ6_bitCount_0f7a4_10 : decode cJ6_bitCount_0f7a4 10 = .ok (.iload_n 0, 1) := DJ6_bitCount_0f7a4 _ _ _ rfl
theorem m_813 : (Cond.constant "java/lang/Integer" 266 (858993459 : Int32)) ∈ BW := bw (tb4 93 (by decide +kernel)) (by decide +kernel)
theorem dJ6_bitCount_0f7a4_11 : decode cJ6_bitCount_0f7a4 11 = .ok (.ldc_w 266, 3) := DJ6_bitCount_0f7a4 _ _ _ rfl
theorem dJ6_bitCount_0f7a4_14 : decode cJ6_bitCount_0f7a4 14 = .ok (.iand, 1) := DJ6_bitCount_0f7a4 _ _ _ rfl
theorem dJ6_bitCount_0f7a4_15 : decode cJ6_bitCount_0f7a4 15 = .ok (.iload_n 0, 1) := DJ6_bitCount_0f7a4 _ _ _ rfl
theorem dJ6_bitCount_0f7a4_16 : decode cJ6_bitCount_0f7a4 16 = .ok (.iconst 2, 1) := DJ6_bitCount_0f7a4 _ _ _ rfl
theorem dJ6_bitCount_0f7a4_17 : decode cJ6_bitCount_0f7a4 17 = .ok (.iushr, 1) := DJ6_bitCount_0f7a4 _ _ _ rfl
theorem dJ6_bitCount_0f7a4_18 : decode cJ6_bitCount_0f7a4 18 = .ok (.ldc_w 266, 3) := DJ6_bitCount_0f7a4 _ _ _ rfl
theorem dJ6_bitCount_0f7a4_21 : decode cJ6_bitCount_0f7a4 21 = .ok (.iand, 1) := DJ6_bitCount_0f7a4 _ _ _ rfl
theorem dJ6_bitCount_0f7a4_22 : decode cJ6_bitCount_0f7a4 22 = .ok (.iadd, 1) := DJ6_bitCount_0f7a4 _ _ _ rfl
theorem dJ6_bitCount_0f7a4_23 : decode cJ6_bitCount_0f7a4 23 = .ok (.istore_n 0, 1) := DJ6_bitCount_0f7a4 _ _ _ rfl
theorem dJ6_bitCount_0f7a4_24 : decode cJ6_bitCount_0f7a4 24 = .ok (.iload_n 0, 1) := DJ6_bitCount_0f7a4 _ _ _ rfl
theorem dJ6_bitCount_0f7a4_25 : decode cJ6_bitCount_0f7a4 25 = .ok (.iload_n 0, 1) := DJ6_bitCount_0f7a4 _ _ _ rfl
theorem dJ6_bitCount_0f7a4_26 : decode cJ6_bitCount_0f7a4 26 = .ok (.iconst 4, 1) := DJ6_bitCount_0f7a4 _ _ _ rfl
theorem dJ6_bitCount_0f7a4_27 : decode cJ6_bitCount_0f7a4 27 = .ok (.iushr, 1) := DJ6_bitCount_0f7a4 _ _ _ rfl
theorem dJ6_bitCount_0f7a4_28 : decode cJ6_bitCount_0f7a4 28 = .ok (.iadd, 1) := DJ6_bitCount_0f7a4 _ _ _ rfl
theorem m_814 : (Cond.constant "java/lang/Integer" 267 (252645135 : Int32)) ∈ BW := bw (tb4 94 (by decide +kernel)) (by decide +kernel)
theorem dJ6_bitCount_0f7a4_29 : decode cJ6_bitCount_0f7a4 29 = .ok (.ldc_w 267, 3) := DJ6_bitCount_0f7a4 _ _ _ rfl
theorem dJ6_bitCount_0f7a4_32 : decode cJ6_bitCount_0f7a4 32 = .ok (.iand, 1) := DJ6_bitCount_0f7a4 _ _ _ rfl
theorem dJ6_bitCount_0f7a4_33 : decode cJ6_bitCount_0f7a4 33 = .ok (.istore_n 0, 1) := DJ6_bitCount_0f7a4 _ _ _ rfl
theorem dJ6_bitCount_0f7a4_34 : decode cJ6_bitCount_0f7a4 34 = .ok (.iload_n 0, 1) := DJ6_bitCount_0f7a4 _ _ _ rfl
theorem dJ6_bitCount_0f7a4_35 : decode cJ6_bitCount_0f7a4 35 = .ok (.iload_n 0, 1) := DJ6_bitCount_0f7a4 _ _ _ rfl
theorem dJ6_bitCount_0f7a4_36 : decode cJ6_bitCount_0f7a4 36 = .ok (.bipush 8, 2) := DJ6_bitCount_0f7a4 _ _ _ rfl
theorem dJ6_bitCount_0f7a4_38 : decode cJ6_bitCount_0f7a4 38 = .ok (.iushr, 1) := DJ6_bitCount_0f7a4 _ _ _ rfl
theorem dJ6_bitCount_0f7a4_39 : decode cJ6_bitCount_0f7a4 39 = .ok (.iadd, 1) := DJ6_bitCount_0f7a4 _ _ _ rfl
theorem dJ6_bitCount_0f7a4_40 : decode cJ6_bitCount_0f7a4 40 = .ok (.istore_n 0, 1) := DJ6_bitCount_0f7a4 _ _ _ rfl
theorem dJ6_bitCount_0f7a4_41 : decode cJ6_bitCount_0f7a4 41 = .ok (.iload_n 0, 1) := DJ6_bitCount_0f7a4 _ _ _ rfl
theorem dJ6_bitCount_0f7a4_42 : decode cJ6_bitCount_0f7a4 42 = .ok (.iload_n 0, 1) := DJ6_bitCount_0f7a4 _ _ _ rfl
theorem dJ6_bitCount_0f7a4_43 : decode cJ6_bitCount_0f7a4 43 = .ok (.bipush 16, 2) := DJ6_bitCount_0f7a4 _ _ _ rfl
theorem dJ6_bitCount_0f7a4_45 : decode cJ6_bitCount_0f7a4 45 = .ok (.iushr, 1) := DJ6_bitCount_0f7a4 _ _ _ rfl
theorem dJ6_bitCount_0f7a4_46 : decode cJ6_bitCount_0f7a4 46 = .ok (.iadd, 1) := DJ6_bitCount_0f7a4 _ _ _ rfl
theorem dJ6_bitCount_0f7a4_47 : decode cJ6_bitCount_0f7a4 47 = .ok (.istore_n 0, 1) := DJ6_bitCount_0f7a4 _ _ _ rfl
theorem dJ6_bitCount_0f7a4_48 : decode cJ6_bitCount_0f7a4 48 = .ok (.iload_n 0, 1) := DJ6_bitCount_0f7a4 _ _ _ rfl
theorem dJ6_bitCount_0f7a4_49 : decode cJ6_bitCount_0f7a4 49 = .ok (.bipush 63, 2) := DJ6_bitCount_0f7a4 _ _ _ rfl
theorem dJ6_bitCount_0f7a4_51 : decode cJ6_bitCount_0f7a4 51 = .ok (.iand, 1) := DJ6_bitCount_0f7a4 _ _ _ rfl
theorem dJ6_bitCount_0f7a4_52 : decode cJ6_bitCount_0f7a4 52 = .ok (.ireturn, 1) := DJ6_bitCount_0f7a4 _ _ _ rfl
theorem m_1082 : (Cond.code yJ7_fill_d0a16 prog_22_method_101_code 5 (Option.none : Option Jvm.ClassFile.FieldType)) ∈ BW := bw (tb5 122 rfl) (by decide +kernel)
theorem dJ7_fill_d0a16_0 : decode cJ7_fill_d0a16 0 = .ok (.iconst 0, 1) := DJ7_fill_d0a16 _ _ _ rfl
theorem dJ7_fill_d0a16_1 : decode cJ7_fill_d0a16 1 = .ok (.istore_n 3, 1) := DJ7_fill_d0a16 _ _ _ rfl
theorem dJ7_fill_d0a16_2 : decode cJ7_fill_d0a16 2 = .ok (.aload_n 0, 1) := DJ7_fill_d0a16 _ _ _ rfl
theorem dJ7_fill_d0a16_3 : decode cJ7_fill_d0a16 3 = .ok (.arraylength, 1) := DJ7_fill_d0a16 _ _ _ rfl
theorem dJ7_fill_d0a16_4 : decode cJ7_fill_d0a16 4 = .ok (.istore 4, 2) := DJ7_fill_d0a16 _ _ _ rfl
theorem dJ7_fill_d0a16_6 : decode cJ7_fill_d0a16 6 = .ok (.iload_n 3, 1) := DJ7_fill_d0a16 _ _ _ rfl
theorem dJ7_fill_d0a16_7 : decode cJ7_fill_d0a16 7 = .ok (.iload 4, 2) := DJ7_fill_d0a16 _ _ _ rfl
theorem dJ7_fill_d0a16_9 : decode cJ7_fill_d0a16 9 = .ok (.if_icmp .ge 13, 3) := DJ7_fill_d0a16 _ _ _ rfl
theorem dJ7_fill_d0a16_12 : decode cJ7_fill_d0a16 12 = .ok (.aload_n 0, 1) := DJ7_fill_d0a16 _ _ _ rfl
theorem dJ7_fill_d0a16_13 : decode cJ7_fill_d0a16 13 = .ok (.iload_n 3, 1) := DJ7_fill_d0a16 _ _ _ rfl
theorem dJ7_fill_d0a16_14 : decode cJ7_fill_d0a16 14 = .ok (.lload_n 1, 1) := DJ7_fill_d0a16 _ _ _ rfl
theorem dJ7_fill_d0a16_15 : decode cJ7_fill_d0a16 15 = .ok (.lastore, 1) := DJ7_fill_d0a16 _ _ _ rfl
theorem dJ7_fill_d0a16_16 : decode cJ7_fill_d0a16 16 = .ok (.iinc 3 1, 3) := DJ7_fill_d0a16 _ _ _ rfl
theorem dJ7_fill_d0a16_19 : decode cJ7_fill_d0a16 19 = .ok (.goto (-13), 3) := DJ7_fill_d0a16 _ _ _ rfl
theorem dJ7_fill_d0a16_22 : decode cJ7_fill_d0a16 22 = .ok (.return_, 1) := DJ7_fill_d0a16 _ _ _ rfl
theorem m_1086 : (Cond.code yX2_goOn prog_4_method_3_code 13 (Option.none : Option Jvm.ClassFile.FieldType)) ∈ BW := bw (tb5 126 rfl) (by decide +kernel)
theorem dX2_goOn_0 : decode cX2_goOn 0 = .ok (.iload_n 1, 1) := DX2_goOn _ _ _ rfl
theorem dX2_goOn_1 : decode cX2_goOn 1 = .ok (.iconst 1, 1) := DX2_goOn _ _ _ rfl
theorem dX2_goOn_2 : decode cX2_goOn 2 = .ok (.isub, 1) := DX2_goOn _ _ _ rfl
theorem dX2_goOn_3 : decode cX2_goOn 3 = .ok (.iload_n 1, 1) := DX2_goOn _ _ _ rfl
theorem dX2_goOn_4 : decode cX2_goOn 4 = .ok (.iload_n 2, 1) := DX2_goOn _ _ _ rfl
theorem dX2_goOn_5 : decode cX2_goOn 5 = .ok (.isub, 1) := DX2_goOn _ _ _ rfl
theorem m_1087 : (Cond.methodLink "NoonValley$Chance" 28 yX2_power) ∈ BW := bw (tb5 127 (by decide +kernel)) (by decide +kernel)
theorem m_1088 : (Cond.static yX2_power) ∈ BW := bw (tb5 128 (by decide +kernel)) (by decide +kernel)
theorem vX2_28 : LST RX2 28 yX2_power cX2_power 5 (some .long) 2 := ⟨m_1087, m_1088, m_10, m_1089, by decide, by decide, by decide +kernel⟩
theorem dX2_goOn_6 : decode cX2_goOn 6 = .ok (.invokestatic 28, 3) := DX2_goOn _ _ _ rfl
theorem dX2_goOn_9 : decode cX2_goOn 9 = .ok (.lstore_n 3, 1) := DX2_goOn _ _ _ rfl
theorem dX2_goOn_10 : decode cX2_goOn 10 = .ok (.iload_n 1, 1) := DX2_goOn _ _ _ rfl
theorem dX2_goOn_11 : decode cX2_goOn 11 = .ok (.iconst 1, 1) := DX2_goOn _ _ _ rfl
theorem dX2_goOn_12 : decode cX2_goOn 12 = .ok (.isub, 1) := DX2_goOn _ _ _ rfl
theorem dX2_goOn_13 : decode cX2_goOn 13 = .ok (.iload_n 2, 1) := DX2_goOn _ _ _ rfl
theorem dX2_goOn_14 : decode cX2_goOn 14 = .ok (.invokestatic 28, 3) := DX2_goOn _ _ _ rfl
theorem dX2_goOn_17 : decode cX2_goOn 17 = .ok (.lstore 5, 2) := DX2_goOn _ _ _ rfl
theorem dX2_goOn_19 : decode cX2_goOn 19 = .ok (.lconst 0, 1) := DX2_goOn _ _ _ rfl
theorem dX2_goOn_20 : decode cX2_goOn 20 = .ok (.lstore 7, 2) := DX2_goOn _ _ _ rfl
theorem dX2_goOn_22 : decode cX2_goOn 22 = .ok (.lload 7, 2) := DX2_goOn _ _ _ rfl
theorem dX2_goOn_24 : decode cX2_goOn 24 = .ok (.lload 5, 2) := DX2_goOn _ _ _ rfl
theorem dX2_goOn_26 : decode cX2_goOn 26 = .ok (.lcmp, 1) := DX2_goOn _ _ _ rfl
theorem dX2_goOn_27 : decode cX2_goOn 27 = .ok (.ifCond .ge 106, 3) := DX2_goOn _ _ _ rfl
theorem dX2_goOn_133 : decode cX2_goOn 133 = .ok (.return_, 1) := DX2_goOn _ _ _ rfl
theorem dX2_goOn_30 : decode cX2_goOn 30 = .ok (.iconst 1, 1) := DX2_goOn _ _ _ rfl
theorem dX2_goOn_31 : decode cX2_goOn 31 = .ok (.iload_n 2, 1) := DX2_goOn _ _ _ rfl
theorem dX2_goOn_32 : decode cX2_goOn 32 = .ok (.ishl, 1) := DX2_goOn _ _ _ rfl
theorem dX2_goOn_33 : decode cX2_goOn 33 = .ok (.iconst 1, 1) := DX2_goOn _ _ _ rfl
theorem dX2_goOn_34 : decode cX2_goOn 34 = .ok (.isub, 1) := DX2_goOn _ _ _ rfl
theorem dX2_goOn_35 : decode cX2_goOn 35 = .ok (.istore 9, 2) := DX2_goOn _ _ _ rfl
theorem dX2_goOn_37 : decode cX2_goOn 37 = .ok (.lload 7, 2) := DX2_goOn _ _ _ rfl
theorem dX2_goOn_39 : decode cX2_goOn 39 = .ok (.lstore 10, 2) := DX2_goOn _ _ _ rfl
theorem dX2_goOn_41 : decode cX2_goOn 41 = .ok (.iconst 0, 1) := DX2_goOn _ _ _ rfl
theorem dX2_goOn_42 : decode cX2_goOn 42 = .ok (.istore 12, 2) := DX2_goOn _ _ _ rfl
theorem dX2_goOn_44 : decode cX2_goOn 44 = .ok (.iload 12, 2) := DX2_goOn _ _ _ rfl
theorem dX2_goOn_46 : decode cX2_goOn 46 = .ok (.iload_n 2, 1) := DX2_goOn _ _ _ rfl
theorem dX2_goOn_47 : decode cX2_goOn 47 = .ok (.if_icmp .ge 46, 3) := DX2_goOn _ _ _ rfl
theorem dX2_goOn_93 : decode cX2_goOn 93 = .ok (.iload 9, 2) := DX2_goOn _ _ _ rfl
theorem m_1094 : (Cond.methodLink "NoonValley$Chance" 41 yJ6_bitCount_0f7a4) ∈ BW := bw (tb5 134 (by decide +kernel)) (by decide +kernel)
theorem m_20 : (Cond.initialized "java/lang/Integer") ∈ BW := bw (tb1 20 (by decide +kernel)) (by decide +kernel)
theorem m_810 : (Cond.static yJ6_bitCount_0f7a4) ∈ BW := bw (tb4 90 (by decide +kernel)) (by decide +kernel)
theorem vX2_41 : LST RX2 41 yJ6_bitCount_0f7a4 cJ6_bitCount_0f7a4 1 (some .int) 1 := ⟨m_1094, m_810, m_20, m_811, by decide, by decide, by decide +kernel⟩
theorem dX2_goOn_95 : decode cX2_goOn 95 = .ok (.invokestatic 41, 3) := DX2_goOn _ _ _ rfl
theorem dX2_goOn_98 : decode cX2_goOn 98 = .ok (.istore 12, 2) := DX2_goOn _ _ _ rfl
theorem dX2_goOn_100 : decode cX2_goOn 100 = .ok (.iload 12, 2) := DX2_goOn _ _ _ rfl
theorem dX2_goOn_102 : decode cX2_goOn 102 = .ok (.iconst 4, 1) := DX2_goOn _ _ _ rfl
theorem dX2_goOn_103 : decode cX2_goOn 103 = .ok (.if_icmp .gt 21, 3) := DX2_goOn _ _ _ rfl
theorem dX2_goOn_106 : decode cX2_goOn 106 = .ok (.aload_n 0, 1) := DX2_goOn _ _ _ rfl
theorem dX2_goOn_107 : decode cX2_goOn 107 = .ok (.getfield 15, 3) := DX2_goOn _ _ _ rfl
theorem dX2_goOn_110 : decode cX2_goOn 110 = .ok (.iload 12, 2) := DX2_goOn _ _ _ rfl
theorem dX2_goOn_112 : decode cX2_goOn 112 = .ok (.dup2, 1) := DX2_goOn _ _ _ rfl
theorem dX2_goOn_113 : decode cX2_goOn 113 = .ok (.laload, 1) := DX2_goOn _ _ _ rfl
theorem dX2_goOn_114 : decode cX2_goOn 114 = .ok (.aload_n 0, 1) := DX2_goOn _ _ _ rfl
theorem dX2_goOn_115 : decode cX2_goOn 115 = .ok (.getfield 11, 3) := DX2_goOn _ _ _ rfl
theorem dX2_goOn_118 : decode cX2_goOn 118 = .ok (.iload_n 2, 1) := DX2_goOn _ _ _ rfl
theorem dX2_goOn_119 : decode cX2_goOn 119 = .ok (.laload, 1) := DX2_goOn _ _ _ rfl
theorem dX2_goOn_120 : decode cX2_goOn 120 = .ok (.lload_n 3, 1) := DX2_goOn _ _ _ rfl
theorem dX2_goOn_121 : decode cX2_goOn 121 = .ok (.lmul, 1) := DX2_goOn _ _ _ rfl
theorem dX2_goOn_122 : decode cX2_goOn 122 = .ok (.ladd, 1) := DX2_goOn _ _ _ rfl
theorem dX2_goOn_123 : decode cX2_goOn 123 = .ok (.lastore, 1) := DX2_goOn _ _ _ rfl
theorem dX2_goOn_124 : decode cX2_goOn 124 = .ok (.lload 7, 2) := DX2_goOn _ _ _ rfl
theorem dX2_goOn_126 : decode cX2_goOn 126 = .ok (.lconst 1, 1) := DX2_goOn _ _ _ rfl
theorem dX2_goOn_127 : decode cX2_goOn 127 = .ok (.ladd, 1) := DX2_goOn _ _ _ rfl
theorem dX2_goOn_128 : decode cX2_goOn 128 = .ok (.lstore 7, 2) := DX2_goOn _ _ _ rfl
theorem dX2_goOn_130 : decode cX2_goOn 130 = .ok (.goto (-108), 3) := DX2_goOn _ _ _ rfl
theorem dX2_goOn_50 : decode cX2_goOn 50 = .ok (.iload 9, 2) := DX2_goOn _ _ _ rfl
theorem dX2_goOn_52 : decode cX2_goOn 52 = .ok (.iconst 1, 1) := DX2_goOn _ _ _ rfl
theorem dX2_goOn_53 : decode cX2_goOn 53 = .ok (.iload 12, 2) := DX2_goOn _ _ _ rfl
theorem dX2_goOn_55 : decode cX2_goOn 55 = .ok (.lload 10, 2) := DX2_goOn _ _ _ rfl
theorem dX2_goOn_57 : decode cX2_goOn 57 = .ok (.iconst 1, 1) := DX2_goOn _ _ _ rfl
theorem dX2_goOn_58 : decode cX2_goOn 58 = .ok (.iload_n 1, 1) := DX2_goOn _ _ _ rfl
theorem dX2_goOn_59 : decode cX2_goOn 59 = .ok (.iconst 1, 1) := DX2_goOn _ _ _ rfl
theorem dX2_goOn_60 : decode cX2_goOn 60 = .ok (.isub, 1) := DX2_goOn _ _ _ rfl
theorem mm_X2_61 : (Cond.methodLink "NoonValley$Chance" 32 Lib.Math.max.name) ∈ BW := bw (tb5 130 (by decide +kernel)) (by decide +kernel)
theorem dX2_goOn_61 : decode cX2_goOn 61 = .ok (.invokestatic 32, 3) := DX2_goOn _ _ _ rfl
theorem dX2_goOn_64 : decode cX2_goOn 64 = .ok (.i2l, 1) := DX2_goOn _ _ _ rfl
theorem dX2_goOn_65 : decode cX2_goOn 65 = .ok (.lrem, 1) := DX2_goOn _ _ _ rfl
theorem dX2_goOn_66 : decode cX2_goOn 66 = .ok (.l2i, 1) := DX2_goOn _ _ _ rfl
theorem dX2_goOn_67 : decode cX2_goOn 67 = .ok (.invokestatic 38, 3) := DX2_goOn _ _ _ rfl
theorem dX2_goOn_70 : decode cX2_goOn 70 = .ok (.ishl, 1) := DX2_goOn _ _ _ rfl
theorem dX2_goOn_71 : decode cX2_goOn 71 = .ok (.ior, 1) := DX2_goOn _ _ _ rfl
theorem dX2_goOn_72 : decode cX2_goOn 72 = .ok (.istore 9, 2) := DX2_goOn _ _ _ rfl
theorem dX2_goOn_74 : decode cX2_goOn 74 = .ok (.lload 10, 2) := DX2_goOn _ _ _ rfl
theorem dX2_goOn_76 : decode cX2_goOn 76 = .ok (.iconst 1, 1) := DX2_goOn _ _ _ rfl
theorem dX2_goOn_77 : decode cX2_goOn 77 = .ok (.iload_n 1, 1) := DX2_goOn _ _ _ rfl
theorem dX2_goOn_78 : decode cX2_goOn 78 = .ok (.iconst 1, 1) := DX2_goOn _ _ _ rfl
theorem dX2_goOn_79 : decode cX2_goOn 79 = .ok (.isub, 1) := DX2_goOn _ _ _ rfl
theorem mm_X2_80 : (Cond.methodLink "NoonValley$Chance" 32 Lib.Math.max.name) ∈ BW := bw (tb5 130 (by decide +kernel)) (by decide +kernel)
theorem dX2_goOn_80 : decode cX2_goOn 80 = .ok (.invokestatic 32, 3) := DX2_goOn _ _ _ rfl
theorem dX2_goOn_83 : decode cX2_goOn 83 = .ok (.i2l, 1) := DX2_goOn _ _ _ rfl
theorem dX2_goOn_84 : decode cX2_goOn 84 = .ok (.ldiv, 1) := DX2_goOn _ _ _ rfl
theorem dX2_goOn_85 : decode cX2_goOn 85 = .ok (.lstore 10, 2) := DX2_goOn _ _ _ rfl
theorem dX2_goOn_87 : decode cX2_goOn 87 = .ok (.iinc 12 1, 3) := DX2_goOn _ _ _ rfl
theorem dX2_goOn_90 : decode cX2_goOn 90 = .ok (.goto (-46), 3) := DX2_goOn _ _ _ rfl
theorem m_1079 : (Cond.code yX2_countWays prog_4_method_2_code 6 (Option.some FieldType.long)) ∈ BW := bw (tb5 119 rfl) (by decide +kernel)
theorem dX2_countWays_0 : decode cX2_countWays 0 = .ok (.aload_n 0, 1) := DX2_countWays _ _ _ rfl
theorem dX2_countWays_1 : decode cX2_countWays 1 = .ok (.getfield 11, 3) := DX2_countWays _ _ _ rfl
theorem dX2_countWays_4 : decode cX2_countWays 4 = .ok (.lconst 0, 1) := DX2_countWays _ _ _ rfl
theorem m_1080 : (Cond.methodLink "NoonValley$Chance" 18 yJ7_fill_d0a16) ∈ BW := bw (tb5 120 (by decide +kernel)) (by decide +kernel)
theorem m_1081 : (Cond.static yJ7_fill_d0a16) ∈ BW := bw (tb5 121 (by decide +kernel)) (by decide +kernel)
theorem vX2_18 : LST RX2 18 yJ7_fill_d0a16 cJ7_fill_d0a16 5 none 2 := ⟨m_1080, m_1081, m_13, m_1082, by decide, by decide, by decide +kernel⟩
theorem dX2_countWays_5 : decode cX2_countWays 5 = .ok (.invokestatic 18, 3) := DX2_countWays _ _ _ rfl
theorem dX2_countWays_8 : decode cX2_countWays 8 = .ok (.aload_n 0, 1) := DX2_countWays _ _ _ rfl
theorem dX2_countWays_9 : decode cX2_countWays 9 = .ok (.getfield 11, 3) := DX2_countWays _ _ _ rfl
theorem dX2_countWays_12 : decode cX2_countWays 12 = .ok (.iconst 1, 1) := DX2_countWays _ _ _ rfl
theorem dX2_countWays_13 : decode cX2_countWays 13 = .ok (.lconst 1, 1) := DX2_countWays _ _ _ rfl
theorem dX2_countWays_14 : decode cX2_countWays 14 = .ok (.lastore, 1) := DX2_countWays _ _ _ rfl
theorem dX2_countWays_15 : decode cX2_countWays 15 = .ok (.iconst 1, 1) := DX2_countWays _ _ _ rfl
theorem dX2_countWays_16 : decode cX2_countWays 16 = .ok (.istore 4, 2) := DX2_countWays _ _ _ rfl
theorem dX2_countWays_18 : decode cX2_countWays 18 = .ok (.iload 4, 2) := DX2_countWays _ _ _ rfl
theorem dX2_countWays_20 : decode cX2_countWays 20 = .ok (.iload_n 2, 1) := DX2_countWays _ _ _ rfl
theorem dX2_countWays_21 : decode cX2_countWays 21 = .ok (.if_icmp .gt 71, 3) := DX2_countWays _ _ _ rfl
theorem dX2_countWays_92 : decode cX2_countWays 92 = .ok (.aload_n 0, 1) := DX2_countWays _ _ _ rfl
theorem dX2_countWays_93 : decode cX2_countWays 93 = .ok (.getfield 11, 3) := DX2_countWays _ _ _ rfl
theorem dX2_countWays_96 : decode cX2_countWays 96 = .ok (.iload_n 3, 1) := DX2_countWays _ _ _ rfl
theorem dX2_countWays_97 : decode cX2_countWays 97 = .ok (.laload, 1) := DX2_countWays _ _ _ rfl
theorem dX2_countWays_98 : decode cX2_countWays 98 = .ok (.lreturn, 1) := DX2_countWays _ _ _ rfl
theorem dX2_countWays_24 : decode cX2_countWays 24 = .ok (.aload_n 0, 1) := DX2_countWays _ _ _ rfl
theorem dX2_countWays_25 : decode cX2_countWays 25 = .ok (.getfield 15, 3) := DX2_countWays _ _ _ rfl
theorem dX2_countWays_28 : decode cX2_countWays 28 = .ok (.lconst 0, 1) := DX2_countWays _ _ _ rfl
theorem dX2_countWays_29 : decode cX2_countWays 29 = .ok (.invokestatic 18, 3) := DX2_countWays _ _ _ rfl
theorem dX2_countWays_32 : decode cX2_countWays 32 = .ok (.iconst 1, 1) := DX2_countWays _ _ _ rfl
theorem dX2_countWays_33 : decode cX2_countWays 33 = .ok (.istore 5, 2) := DX2_countWays _ _ _ rfl
theorem dX2_countWays_35 : decode cX2_countWays 35 = .ok (.iload 5, 2) := DX2_countWays _ _ _ rfl
theorem dX2_countWays_37 : decode cX2_countWays 37 = .ok (.iload_n 1, 1) := DX2_countWays _ _ _ rfl
theorem dX2_countWays_38 : decode cX2_countWays 38 = .ok (.if_icmp .gt 28, 3) := DX2_countWays _ _ _ rfl
theorem dX2_countWays_66 : decode cX2_countWays 66 = .ok (.aload_n 0, 1) := DX2_countWays _ _ _ rfl
theorem dX2_countWays_67 : decode cX2_countWays 67 = .ok (.getfield 11, 3) := DX2_countWays _ _ _ rfl
theorem dX2_countWays_70 : decode cX2_countWays 70 = .ok (.astore 5, 2) := DX2_countWays _ _ _ rfl
theorem dX2_countWays_72 : decode cX2_countWays 72 = .ok (.aload_n 0, 1) := DX2_countWays _ _ _ rfl
theorem dX2_countWays_73 : decode cX2_countWays 73 = .ok (.aload_n 0, 1) := DX2_countWays _ _ _ rfl
theorem dX2_countWays_74 : decode cX2_countWays 74 = .ok (.getfield 15, 3) := DX2_countWays _ _ _ rfl
theorem dX2_countWays_77 : decode cX2_countWays 77 = .ok (.putfield 11, 3) := DX2_countWays _ _ _ rfl
theorem dX2_countWays_80 : decode cX2_countWays 80 = .ok (.aload_n 0, 1) := DX2_countWays _ _ _ rfl
theorem dX2_countWays_81 : decode cX2_countWays 81 = .ok (.aload 5, 2) := DX2_countWays _ _ _ rfl
theorem dX2_countWays_83 : decode cX2_countWays 83 = .ok (.putfield 15, 3) := DX2_countWays _ _ _ rfl
theorem dX2_countWays_86 : decode cX2_countWays 86 = .ok (.iinc 4 1, 3) := DX2_countWays _ _ _ rfl
theorem dX2_countWays_89 : decode cX2_countWays 89 = .ok (.goto (-71), 3) := DX2_countWays _ _ _ rfl
theorem dX2_countWays_41 : decode cX2_countWays 41 = .ok (.aload_n 0, 1) := DX2_countWays _ _ _ rfl
theorem dX2_countWays_42 : decode cX2_countWays 42 = .ok (.getfield 11, 3) := DX2_countWays _ _ _ rfl
theorem dX2_countWays_45 : decode cX2_countWays 45 = .ok (.iload 5, 2) := DX2_countWays _ _ _ rfl
theorem dX2_countWays_47 : decode cX2_countWays 47 = .ok (.laload, 1) := DX2_countWays _ _ _ rfl
theorem dX2_countWays_48 : decode cX2_countWays 48 = .ok (.lconst 0, 1) := DX2_countWays _ _ _ rfl
theorem dX2_countWays_49 : decode cX2_countWays 49 = .ok (.lcmp, 1) := DX2_countWays _ _ _ rfl
theorem dX2_countWays_50 : decode cX2_countWays 50 = .ok (.ifCond .eq 10, 3) := DX2_countWays _ _ _ rfl
theorem dX2_countWays_60 : decode cX2_countWays 60 = .ok (.iinc 5 1, 3) := DX2_countWays _ _ _ rfl
theorem dX2_countWays_63 : decode cX2_countWays 63 = .ok (.goto (-28), 3) := DX2_countWays _ _ _ rfl
theorem dX2_countWays_53 : decode cX2_countWays 53 = .ok (.aload_n 0, 1) := DX2_countWays _ _ _ rfl
theorem dX2_countWays_54 : decode cX2_countWays 54 = .ok (.iload_n 1, 1) := DX2_countWays _ _ _ rfl
theorem dX2_countWays_55 : decode cX2_countWays 55 = .ok (.iload 5, 2) := DX2_countWays _ _ _ rfl
theorem m_1083 : (Cond.methodLink "NoonValley$Chance" 24 yX2_goOn) ∈ BW := bw (tb5 123 (by decide +kernel)) (by decide +kernel)
theorem m_1085 : (Cond.instanceMethod yX2_goOn) ∈ BW := bw (tb5 125 (by decide +kernel)) (by decide +kernel)
theorem s_4_0 : (Cond.selects RX2 yX2_goOn yX2_goOn) ∈ BW := bw (sl4 (y := yX2_goOn) (n := 2) 0 (by decide +kernel)) (by decide +kernel)
theorem vX2_24 : LV RX2 24 RX2 yX2_goOn cX2_goOn 13 none 2 := ⟨m_1083, m_1085, s_4_0, m_10, m_1086, rfl, by decide, by decide, by decide +kernel⟩
theorem dX2_countWays_57 : decode cX2_countWays 57 = .ok (.invokevirtual 24, 3) := DX2_countWays _ _ _ rfl
theorem m_1074 : (Cond.code yX11_ways prog_1_method_33_code 4 (Option.some FieldType.long)) ∈ BW := bw (tb5 114 rfl) (by decide +kernel)
theorem dX11_ways_0 : decode cX11_ways 0 = .ok (.iload_n 1, 1) := DX11_ways _ _ _ rfl
theorem dX11_ways_1 : decode cX11_ways 1 = .ok (.iconst 2, 1) := DX11_ways _ _ _ rfl
theorem dX11_ways_2 : decode cX11_ways 2 = .ok (.if_icmp .lt 29, 3) := DX11_ways _ _ _ rfl
theorem m_1075 : (Cond.constantLong "NoonValley" 298 (-1 : Int64)) ∈ BW := bw (tb5 115 (by decide +kernel)) (by decide +kernel)
theorem dX11_ways_31 : decode cX11_ways 31 = .ok (.ldc2_w 298, 3) := DX11_ways _ _ _ rfl
theorem dX11_ways_34 : decode cX11_ways 34 = .ok (.lreturn, 1) := DX11_ways _ _ _ rfl
theorem dX11_ways_5 : decode cX11_ways 5 = .ok (.iload_n 1, 1) := DX11_ways _ _ _ rfl
theorem dX11_ways_6 : decode cX11_ways 6 = .ok (.iconst 4, 1) := DX11_ways _ _ _ rfl
theorem dX11_ways_7 : decode cX11_ways 7 = .ok (.if_icmp .gt 24, 3) := DX11_ways _ _ _ rfl
theorem dX11_ways_10 : decode cX11_ways 10 = .ok (.iload_n 2, 1) := DX11_ways _ _ _ rfl
theorem dX11_ways_11 : decode cX11_ways 11 = .ok (.iconst 1, 1) := DX11_ways _ _ _ rfl
theorem dX11_ways_12 : decode cX11_ways 12 = .ok (.if_icmp .lt 19, 3) := DX11_ways _ _ _ rfl
theorem dX11_ways_15 : decode cX11_ways 15 = .ok (.iload_n 2, 1) := DX11_ways _ _ _ rfl
theorem dX11_ways_16 : decode cX11_ways 16 = .ok (.bipush 8, 2) := DX11_ways _ _ _ rfl
theorem dX11_ways_18 : decode cX11_ways 18 = .ok (.if_icmp .gt 13, 3) := DX11_ways _ _ _ rfl
theorem dX11_ways_21 : decode cX11_ways 21 = .ok (.iload_n 3, 1) := DX11_ways _ _ _ rfl
theorem dX11_ways_22 : decode cX11_ways 22 = .ok (.iconst 1, 1) := DX11_ways _ _ _ rfl
theorem dX11_ways_23 : decode cX11_ways 23 = .ok (.if_icmp .lt 8, 3) := DX11_ways _ _ _ rfl
theorem dX11_ways_26 : decode cX11_ways 26 = .ok (.iload_n 3, 1) := DX11_ways _ _ _ rfl
theorem dX11_ways_27 : decode cX11_ways 27 = .ok (.iload_n 1, 1) := DX11_ways _ _ _ rfl
theorem dX11_ways_28 : decode cX11_ways 28 = .ok (.if_icmp .le 7, 3) := DX11_ways _ _ _ rfl
theorem dX11_ways_35 : decode cX11_ways 35 = .ok (.aload_n 0, 1) := DX11_ways _ _ _ rfl
theorem dX11_ways_36 : decode cX11_ways 36 = .ok (.getfield 73, 3) := DX11_ways _ _ _ rfl
theorem dX11_ways_39 : decode cX11_ways 39 = .ok (.iload_n 1, 1) := DX11_ways _ _ _ rfl
theorem dX11_ways_40 : decode cX11_ways 40 = .ok (.iload_n 2, 1) := DX11_ways _ _ _ rfl
theorem dX11_ways_41 : decode cX11_ways 41 = .ok (.iload_n 3, 1) := DX11_ways _ _ _ rfl
theorem m_1076 : (Cond.methodLink "NoonValley" 300 yX2_countWays) ∈ BW := bw (tb5 116 (by decide +kernel)) (by decide +kernel)
theorem m_1077 : (Cond.instanceMethod yX2_countWays) ∈ BW := bw (tb5 117 (by decide +kernel)) (by decide +kernel)
theorem m_1078 : (Cond.selects "NoonValley$Chance" yX2_countWays yX2_countWays) ∈ BW := bw (tb5 118 (by decide +kernel)) (by decide +kernel)
theorem vX11_300 : LV RX11 300 RX2 yX2_countWays cX2_countWays 6 (some .long) 3 := ⟨m_1076, m_1077, m_1078, m_10, m_1079, rfl, by decide, by decide, by decide +kernel⟩
theorem dX11_ways_42 : decode cX11_ways 42 = .ok (.invokevirtual 300, 3) := DX11_ways _ _ _ rfl
theorem dX11_ways_45 : decode cX11_ways 45 = .ok (.lreturn, 1) := DX11_ways _ _ _ rfl
theorem m_1763 : (Cond.code yX12_choose prog_14_method_87_code 8 (Option.none : Option Jvm.ClassFile.FieldType)) ∈ BW := bw (tb8 83 rfl) (by decide +kernel)
theorem dX12_choose_0 : decode cX12_choose 0 = .ok (.iload_n 3, 1) := DX12_choose _ _ _ rfl
theorem dX12_choose_1 : decode cX12_choose 1 = .ok (.iload_n 1, 1) := DX12_choose _ _ _ rfl
theorem dX12_choose_2 : decode cX12_choose 2 = .ok (.if_icmp .ne 18, 3) := DX12_choose _ _ _ rfl
theorem dX12_choose_5 : decode cX12_choose 5 = .ok (.aload_n 0, 1) := DX12_choose _ _ _ rfl
theorem dX12_choose_6 : decode cX12_choose 6 = .ok (.getfield 148, 3) := DX12_choose _ _ _ rfl
theorem dX12_choose_9 : decode cX12_choose 9 = .ok (.iload_n 2, 1) := DX12_choose _ _ _ rfl
theorem dX12_choose_10 : decode cX12_choose 10 = .ok (.iload 4, 2) := DX12_choose _ _ _ rfl
theorem dX12_choose_12 : decode cX12_choose 12 = .ok (.ior, 1) := DX12_choose _ _ _ rfl
theorem dX12_choose_13 : decode cX12_choose 13 = .ok (.dup2, 1) := DX12_choose _ _ _ rfl
theorem dX12_choose_14 : decode cX12_choose 14 = .ok (.laload, 1) := DX12_choose _ _ _ rfl
theorem dX12_choose_15 : decode cX12_choose 15 = .ok (.lload 5, 2) := DX12_choose _ _ _ rfl
theorem dX12_choose_17 : decode cX12_choose 17 = .ok (.ladd, 1) := DX12_choose _ _ _ rfl
theorem dX12_choose_18 : decode cX12_choose 18 = .ok (.lastore, 1) := DX12_choose _ _ _ rfl
theorem dX12_choose_19 : decode cX12_choose 19 = .ok (.return_, 1) := DX12_choose _ _ _ rfl
theorem dX12_choose_20 : decode cX12_choose 20 = .ok (.iconst 0, 1) := DX12_choose _ _ _ rfl
theorem dX12_choose_21 : decode cX12_choose 21 = .ok (.istore 7, 2) := DX12_choose _ _ _ rfl
theorem dX12_choose_23 : decode cX12_choose 23 = .ok (.iload 7, 2) := DX12_choose _ _ _ rfl
theorem dX12_choose_25 : decode cX12_choose 25 = .ok (.iload_n 1, 1) := DX12_choose _ _ _ rfl
theorem dX12_choose_26 : decode cX12_choose 26 = .ok (.if_icmp .ge 47, 3) := DX12_choose _ _ _ rfl
theorem dX12_choose_73 : decode cX12_choose 73 = .ok (.return_, 1) := DX12_choose _ _ _ rfl
theorem dX12_choose_29 : decode cX12_choose 29 = .ok (.iload 7, 2) := DX12_choose _ _ _ rfl
theorem dX12_choose_31 : decode cX12_choose 31 = .ok (.iload_n 3, 1) := DX12_choose _ _ _ rfl
theorem dX12_choose_32 : decode cX12_choose 32 = .ok (.if_icmp .eq 35, 3) := DX12_choose _ _ _ rfl
theorem dX12_choose_67 : decode cX12_choose 67 = .ok (.iinc 7 1, 3) := DX12_choose _ _ _ rfl
theorem dX12_choose_70 : decode cX12_choose 70 = .ok (.goto (-47), 3) := DX12_choose _ _ _ rfl
theorem dX12_choose_35 : decode cX12_choose 35 = .ok (.aload_n 0, 1) := DX12_choose _ _ _ rfl
theorem dX12_choose_36 : decode cX12_choose 36 = .ok (.iload_n 1, 1) := DX12_choose _ _ _ rfl
theorem dX12_choose_37 : decode cX12_choose 37 = .ok (.iload_n 2, 1) := DX12_choose _ _ _ rfl
theorem dX12_choose_38 : decode cX12_choose 38 = .ok (.iload_n 3, 1) := DX12_choose _ _ _ rfl
theorem dX12_choose_39 : decode cX12_choose 39 = .ok (.iconst 1, 1) := DX12_choose _ _ _ rfl
theorem dX12_choose_40 : decode cX12_choose 40 = .ok (.iadd, 1) := DX12_choose _ _ _ rfl
theorem dX12_choose_41 : decode cX12_choose 41 = .ok (.iload_n 2, 1) := DX12_choose _ _ _ rfl
theorem dX12_choose_42 : decode cX12_choose 42 = .ok (.iload_n 3, 1) := DX12_choose _ _ _ rfl
theorem dX12_choose_43 : decode cX12_choose 43 = .ok (.ishr, 1) := DX12_choose _ _ _ rfl
theorem dX12_choose_44 : decode cX12_choose 44 = .ok (.iconst 1, 1) := DX12_choose _ _ _ rfl
theorem dX12_choose_45 : decode cX12_choose 45 = .ok (.iand, 1) := DX12_choose _ _ _ rfl
theorem dX12_choose_46 : decode cX12_choose 46 = .ok (.iconst 1, 1) := DX12_choose _ _ _ rfl
theorem dX12_choose_47 : decode cX12_choose 47 = .ok (.if_icmp .ne 13, 3) := DX12_choose _ _ _ rfl
theorem dX12_choose_60 : decode cX12_choose 60 = .ok (.iload 4, 2) := DX12_choose _ _ _ rfl
theorem dX12_choose_62 : decode cX12_choose 62 = .ok (.lload 5, 2) := DX12_choose _ _ _ rfl
theorem m_1760 : (Cond.methodLink "NoonValleyModel" 388 yX12_choose) ∈ BW := bw (tb8 80 (by decide +kernel)) (by decide +kernel)
theorem m_1762 : (Cond.instanceMethod yX12_choose) ∈ BW := bw (tb8 82 (by decide +kernel)) (by decide +kernel)
theorem s_7_3 : (Cond.selects RX12 yX12_choose yX12_choose) ∈ BW := bw (sl7 (y := yX12_choose) (n := 64) 3 (by decide +kernel)) (by decide +kernel)
theorem vX12_388 : LV RX12 388 RX12 yX12_choose cX12_choose 8 none 5 := ⟨m_1760, m_1762, s_7_3, m_12, m_1763, rfl, by decide, by decide, by decide +kernel⟩
theorem dX12_choose_64 : decode cX12_choose 64 = .ok (.invokevirtual 388, 3) := DX12_choose _ _ _ rfl
theorem dX12_choose_50 : decode cX12_choose 50 = .ok (.iload 4, 2) := DX12_choose _ _ _ rfl
theorem dX12_choose_52 : decode cX12_choose 52 = .ok (.iconst 1, 1) := DX12_choose _ _ _ rfl
theorem dX12_choose_53 : decode cX12_choose 53 = .ok (.iload 7, 2) := DX12_choose _ _ _ rfl
theorem dX12_choose_55 : decode cX12_choose 55 = .ok (.ishl, 1) := DX12_choose _ _ _ rfl
theorem dX12_choose_56 : decode cX12_choose 56 = .ok (.ior, 1) := DX12_choose _ _ _ rfl
theorem dX12_choose_57 : decode cX12_choose 57 = .ok (.goto 5, 3) := DX12_choose _ _ _ rfl
theorem m_1758 : (Cond.code yX12_ways prog_14_method_88_code 7 (Option.some FieldType.long)) ∈ BW := bw (tb8 78 rfl) (by decide +kernel)
theorem dX12_ways_0 : decode cX12_ways 0 = .ok (.aload_n 0, 1) := DX12_ways _ _ _ rfl
theorem dX12_ways_1 : decode cX12_ways 1 = .ok (.iconst 0, 1) := DX12_ways _ _ _ rfl
theorem dX12_ways_2 : decode cX12_ways 2 = .ok (.putfield 160, 3) := DX12_ways _ _ _ rfl
theorem dX12_ways_5 : decode cX12_ways 5 = .ok (.iload_n 1, 1) := DX12_ways _ _ _ rfl
theorem dX12_ways_6 : decode cX12_ways 6 = .ok (.iconst 2, 1) := DX12_ways _ _ _ rfl
theorem dX12_ways_7 : decode cX12_ways 7 = .ok (.iconst 4, 1) := DX12_ways _ _ _ rfl
theorem dX12_ways_8 : decode cX12_ways 8 = .ok (.invokestatic 198, 3) := DX12_ways _ _ _ rfl
theorem dX12_ways_11 : decode cX12_ways 11 = .ok (.ifCond .eq 22, 3) := DX12_ways _ _ _ rfl
theorem m_1759 : (Cond.constantLong "NoonValleyModel" 392 (-1 : Int64)) ∈ BW := bw (tb8 79 (by decide +kernel)) (by decide +kernel)
theorem dX12_ways_33 : decode cX12_ways 33 = .ok (.ldc2_w 392, 3) := DX12_ways _ _ _ rfl
theorem dX12_ways_36 : decode cX12_ways 36 = .ok (.lreturn, 1) := DX12_ways _ _ _ rfl
theorem dX12_ways_14 : decode cX12_ways 14 = .ok (.iload_n 2, 1) := DX12_ways _ _ _ rfl
theorem dX12_ways_15 : decode cX12_ways 15 = .ok (.iconst 1, 1) := DX12_ways _ _ _ rfl
theorem dX12_ways_16 : decode cX12_ways 16 = .ok (.bipush 8, 2) := DX12_ways _ _ _ rfl
theorem dX12_ways_18 : decode cX12_ways 18 = .ok (.invokestatic 198, 3) := DX12_ways _ _ _ rfl
theorem dX12_ways_21 : decode cX12_ways 21 = .ok (.ifCond .eq 12, 3) := DX12_ways _ _ _ rfl
theorem dX12_ways_24 : decode cX12_ways 24 = .ok (.iload_n 3, 1) := DX12_ways _ _ _ rfl
theorem dX12_ways_25 : decode cX12_ways 25 = .ok (.iconst 1, 1) := DX12_ways _ _ _ rfl
theorem dX12_ways_26 : decode cX12_ways 26 = .ok (.iload_n 1, 1) := DX12_ways _ _ _ rfl
theorem dX12_ways_27 : decode cX12_ways 27 = .ok (.invokestatic 198, 3) := DX12_ways _ _ _ rfl
theorem dX12_ways_30 : decode cX12_ways 30 = .ok (.ifCond .ne 7, 3) := DX12_ways _ _ _ rfl
theorem dX12_ways_37 : decode cX12_ways 37 = .ok (.iconst 0, 1) := DX12_ways _ _ _ rfl
theorem dX12_ways_38 : decode cX12_ways 38 = .ok (.istore 4, 2) := DX12_ways _ _ _ rfl
theorem dX12_ways_40 : decode cX12_ways 40 = .ok (.iload 4, 2) := DX12_ways _ _ _ rfl
theorem dX12_ways_42 : decode cX12_ways 42 = .ok (.bipush 16, 2) := DX12_ways _ _ _ rfl
theorem dX12_ways_44 : decode cX12_ways 44 = .ok (.if_icmp .ge 27, 3) := DX12_ways _ _ _ rfl
theorem dX12_ways_71 : decode cX12_ways 71 = .ok (.iconst 0, 1) := DX12_ways _ _ _ rfl
theorem dX12_ways_72 : decode cX12_ways 72 = .ok (.istore 4, 2) := DX12_ways _ _ _ rfl
theorem dX12_ways_74 : decode cX12_ways 74 = .ok (.iload 4, 2) := DX12_ways _ _ _ rfl
theorem dX12_ways_76 : decode cX12_ways 76 = .ok (.iload_n 2, 1) := DX12_ways _ _ _ rfl
theorem dX12_ways_77 : decode cX12_ways 77 = .ok (.if_icmp .ge 108, 3) := DX12_ways _ _ _ rfl
theorem dX12_ways_185 : decode cX12_ways 185 = .ok (.lconst 0, 1) := DX12_ways _ _ _ rfl
theorem dX12_ways_186 : decode cX12_ways 186 = .ok (.lstore 4, 2) := DX12_ways _ _ _ rfl
theorem dX12_ways_188 : decode cX12_ways 188 = .ok (.iconst 0, 1) := DX12_ways _ _ _ rfl
theorem dX12_ways_189 : decode cX12_ways 189 = .ok (.istore 6, 2) := DX12_ways _ _ _ rfl
theorem dX12_ways_191 : decode cX12_ways 191 = .ok (.iload 6, 2) := DX12_ways _ _ _ rfl
theorem dX12_ways_193 : decode cX12_ways 193 = .ok (.bipush 16, 2) := DX12_ways _ _ _ rfl
theorem dX12_ways_195 : decode cX12_ways 195 = .ok (.if_icmp .ge 34, 3) := DX12_ways _ _ _ rfl
theorem dX12_ways_229 : decode cX12_ways 229 = .ok (.lload 4, 2) := DX12_ways _ _ _ rfl
theorem dX12_ways_231 : decode cX12_ways 231 = .ok (.lreturn, 1) := DX12_ways _ _ _ rfl
theorem dX12_ways_198 : decode cX12_ways 198 = .ok (.lload 4, 2) := DX12_ways _ _ _ rfl
theorem dX12_ways_200 : decode cX12_ways 200 = .ok (.iload 6, 2) := DX12_ways _ _ _ rfl
theorem m_1654 : (Cond.methodLink "NoonValleyModel" 334 yJ6_bitCount_0f7a4) ∈ BW := bw (tb7 214 (by decide +kernel)) (by decide +kernel)
theorem vX12_334 : LST RX12 334 yJ6_bitCount_0f7a4 cJ6_bitCount_0f7a4 1 (some .int) 1 := ⟨m_1654, m_810, m_20, m_811, by decide, by decide, by decide +kernel⟩
theorem dX12_ways_202 : decode cX12_ways 202 = .ok (.invokestatic 334, 3) := DX12_ways _ _ _ rfl
theorem dX12_ways_205 : decode cX12_ways 205 = .ok (.iload_n 3, 1) := DX12_ways _ _ _ rfl
theorem dX12_ways_206 : decode cX12_ways 206 = .ok (.if_icmp .ne 13, 3) := DX12_ways _ _ _ rfl
theorem dX12_ways_219 : decode cX12_ways 219 = .ok (.lconst 0, 1) := DX12_ways _ _ _ rfl
theorem dX12_ways_220 : decode cX12_ways 220 = .ok (.ladd, 1) := DX12_ways _ _ _ rfl
theorem dX12_ways_221 : decode cX12_ways 221 = .ok (.lstore 4, 2) := DX12_ways _ _ _ rfl
theorem dX12_ways_223 : decode cX12_ways 223 = .ok (.iinc 6 1, 3) := DX12_ways _ _ _ rfl
theorem dX12_ways_226 : decode cX12_ways 226 = .ok (.goto (-35), 3) := DX12_ways _ _ _ rfl
theorem dX12_ways_209 : decode cX12_ways 209 = .ok (.aload_n 0, 1) := DX12_ways _ _ _ rfl
theorem dX12_ways_210 : decode cX12_ways 210 = .ok (.getfield 144, 3) := DX12_ways _ _ _ rfl
theorem dX12_ways_213 : decode cX12_ways 213 = .ok (.iload 6, 2) := DX12_ways _ _ _ rfl
theorem dX12_ways_215 : decode cX12_ways 215 = .ok (.laload, 1) := DX12_ways _ _ _ rfl
theorem dX12_ways_216 : decode cX12_ways 216 = .ok (.goto 4, 3) := DX12_ways _ _ _ rfl
theorem dX12_ways_80 : decode cX12_ways 80 = .ok (.iconst 0, 1) := DX12_ways _ _ _ rfl
theorem dX12_ways_81 : decode cX12_ways 81 = .ok (.istore 5, 2) := DX12_ways _ _ _ rfl
theorem dX12_ways_83 : decode cX12_ways 83 = .ok (.iload 5, 2) := DX12_ways _ _ _ rfl
theorem dX12_ways_85 : decode cX12_ways 85 = .ok (.bipush 16, 2) := DX12_ways _ _ _ rfl
theorem dX12_ways_87 : decode cX12_ways 87 = .ok (.if_icmp .ge 17, 3) := DX12_ways _ _ _ rfl
theorem dX12_ways_104 : decode cX12_ways 104 = .ok (.iconst 0, 1) := DX12_ways _ _ _ rfl
theorem dX12_ways_105 : decode cX12_ways 105 = .ok (.istore 5, 2) := DX12_ways _ _ _ rfl
theorem dX12_ways_107 : decode cX12_ways 107 = .ok (.iload 5, 2) := DX12_ways _ _ _ rfl
theorem dX12_ways_109 : decode cX12_ways 109 = .ok (.iconst 1, 1) := DX12_ways _ _ _ rfl
theorem dX12_ways_110 : decode cX12_ways 110 = .ok (.iload_n 1, 1) := DX12_ways _ _ _ rfl
theorem dX12_ways_111 : decode cX12_ways 111 = .ok (.ishl, 1) := DX12_ways _ _ _ rfl
theorem dX12_ways_112 : decode cX12_ways 112 = .ok (.if_icmp .ge 37, 3) := DX12_ways _ _ _ rfl
theorem dX12_ways_149 : decode cX12_ways 149 = .ok (.iconst 0, 1) := DX12_ways _ _ _ rfl
theorem dX12_ways_150 : decode cX12_ways 150 = .ok (.istore 5, 2) := DX12_ways _ _ _ rfl
theorem dX12_ways_152 : decode cX12_ways 152 = .ok (.iload 5, 2) := DX12_ways _ _ _ rfl
theorem dX12_ways_154 : decode cX12_ways 154 = .ok (.bipush 16, 2) := DX12_ways _ _ _ rfl
theorem dX12_ways_156 : decode cX12_ways 156 = .ok (.if_icmp .ge 23, 3) := DX12_ways _ _ _ rfl
theorem dX12_ways_179 : decode cX12_ways 179 = .ok (.iinc 4 1, 3) := DX12_ways _ _ _ rfl
theorem dX12_ways_182 : decode cX12_ways 182 = .ok (.goto (-108), 3) := DX12_ways _ _ _ rfl
theorem dX12_ways_159 : decode cX12_ways 159 = .ok (.aload_n 0, 1) := DX12_ways _ _ _ rfl
theorem dX12_ways_160 : decode cX12_ways 160 = .ok (.getfield 144, 3) := DX12_ways _ _ _ rfl
theorem dX12_ways_163 : decode cX12_ways 163 = .ok (.iload 5, 2) := DX12_ways _ _ _ rfl
theorem dX12_ways_165 : decode cX12_ways 165 = .ok (.aload_n 0, 1) := DX12_ways _ _ _ rfl
theorem dX12_ways_166 : decode cX12_ways 166 = .ok (.getfield 148, 3) := DX12_ways _ _ _ rfl
theorem dX12_ways_169 : decode cX12_ways 169 = .ok (.iload 5, 2) := DX12_ways _ _ _ rfl
theorem dX12_ways_171 : decode cX12_ways 171 = .ok (.laload, 1) := DX12_ways _ _ _ rfl
theorem dX12_ways_172 : decode cX12_ways 172 = .ok (.lastore, 1) := DX12_ways _ _ _ rfl
theorem dX12_ways_173 : decode cX12_ways 173 = .ok (.iinc 5 1, 3) := DX12_ways _ _ _ rfl
theorem dX12_ways_176 : decode cX12_ways 176 = .ok (.goto (-24), 3) := DX12_ways _ _ _ rfl
theorem dX12_ways_115 : decode cX12_ways 115 = .ok (.aload_n 0, 1) := DX12_ways _ _ _ rfl
theorem dX12_ways_116 : decode cX12_ways 116 = .ok (.getfield 144, 3) := DX12_ways _ _ _ rfl
theorem dX12_ways_119 : decode cX12_ways 119 = .ok (.iload 5, 2) := DX12_ways _ _ _ rfl
theorem dX12_ways_121 : decode cX12_ways 121 = .ok (.laload, 1) := DX12_ways _ _ _ rfl
theorem dX12_ways_122 : decode cX12_ways 122 = .ok (.lconst 0, 1) := DX12_ways _ _ _ rfl
theorem dX12_ways_123 : decode cX12_ways 123 = .ok (.lcmp, 1) := DX12_ways _ _ _ rfl
theorem dX12_ways_124 : decode cX12_ways 124 = .ok (.ifCond .le 19, 3) := DX12_ways _ _ _ rfl
theorem dX12_ways_143 : decode cX12_ways 143 = .ok (.iinc 5 1, 3) := DX12_ways _ _ _ rfl
theorem dX12_ways_146 : decode cX12_ways 146 = .ok (.goto (-39), 3) := DX12_ways _ _ _ rfl
theorem dX12_ways_127 : decode cX12_ways 127 = .ok (.aload_n 0, 1) := DX12_ways _ _ _ rfl
theorem dX12_ways_128 : decode cX12_ways 128 = .ok (.iload_n 1, 1) := DX12_ways _ _ _ rfl
theorem dX12_ways_129 : decode cX12_ways 129 = .ok (.iload 5, 2) := DX12_ways _ _ _ rfl
theorem dX12_ways_131 : decode cX12_ways 131 = .ok (.iconst 0, 1) := DX12_ways _ _ _ rfl
theorem dX12_ways_132 : decode cX12_ways 132 = .ok (.iconst 0, 1) := DX12_ways _ _ _ rfl
theorem dX12_ways_133 : decode cX12_ways 133 = .ok (.aload_n 0, 1) := DX12_ways _ _ _ rfl
theorem dX12_ways_134 : decode cX12_ways 134 = .ok (.getfield 144, 3) := DX12_ways _ _ _ rfl
theorem dX12_ways_137 : decode cX12_ways 137 = .ok (.iload 5, 2) := DX12_ways _ _ _ rfl
theorem dX12_ways_139 : decode cX12_ways 139 = .ok (.laload, 1) := DX12_ways _ _ _ rfl
theorem dX12_ways_140 : decode cX12_ways 140 = .ok (.invokevirtual 388, 3) := DX12_ways _ _ _ rfl
theorem dX12_ways_90 : decode cX12_ways 90 = .ok (.aload_n 0, 1) := DX12_ways _ _ _ rfl
theorem dX12_ways_91 : decode cX12_ways 91 = .ok (.getfield 148, 3) := DX12_ways _ _ _ rfl
theorem dX12_ways_94 : decode cX12_ways 94 = .ok (.iload 5, 2) := DX12_ways _ _ _ rfl
theorem dX12_ways_96 : decode cX12_ways 96 = .ok (.lconst 0, 1) := DX12_ways _ _ _ rfl
theorem dX12_ways_97 : decode cX12_ways 97 = .ok (.lastore, 1) := DX12_ways _ _ _ rfl
theorem dX12_ways_98 : decode cX12_ways 98 = .ok (.iinc 5 1, 3) := DX12_ways _ _ _ rfl
theorem dX12_ways_101 : decode cX12_ways 101 = .ok (.goto (-18), 3) := DX12_ways _ _ _ rfl
theorem dX12_ways_47 : decode cX12_ways 47 = .ok (.aload_n 0, 1) := DX12_ways _ _ _ rfl
theorem dX12_ways_48 : decode cX12_ways 48 = .ok (.getfield 144, 3) := DX12_ways _ _ _ rfl
theorem dX12_ways_51 : decode cX12_ways 51 = .ok (.iload 4, 2) := DX12_ways _ _ _ rfl
theorem dX12_ways_53 : decode cX12_ways 53 = .ok (.iload 4, 2) := DX12_ways _ _ _ rfl
theorem dX12_ways_55 : decode cX12_ways 55 = .ok (.iconst 1, 1) := DX12_ways _ _ _ rfl
theorem dX12_ways_56 : decode cX12_ways 56 = .ok (.if_icmp .ne 7, 3) := DX12_ways _ _ _ rfl
theorem dX12_ways_63 : decode cX12_ways 63 = .ok (.lconst 0, 1) := DX12_ways _ _ _ rfl
theorem dX12_ways_64 : decode cX12_ways 64 = .ok (.lastore, 1) := DX12_ways _ _ _ rfl
theorem dX12_ways_65 : decode cX12_ways 65 = .ok (.iinc 4 1, 3) := DX12_ways _ _ _ rfl
theorem dX12_ways_68 : decode cX12_ways 68 = .ok (.goto (-28), 3) := DX12_ways _ _ _ rfl
theorem dX12_ways_59 : decode cX12_ways 59 = .ok (.lconst 1, 1) := DX12_ways _ _ _ rfl
theorem dX12_ways_60 : decode cX12_ways 60 = .ok (.goto 4, 3) := DX12_ways _ _ _ rfl
set_option maxHeartbeats 4000000 in
set_option maxRecDepth 100000 in
theorem C_X2_power (l : Launch) (g : GG) (b x : Nat) (hb2 : b < 2 ^ 31) (hx2 : x < 2 ^ 30) : MetL l g yX2_power cX2_power 5 (some .long) 0 0 0 [.int (nI b), .int (nI x)] [] (fun r u => r = lN (pw b x) ∧ u = []) := by
  refine MetL.of (own := RX2) rfl (by decide) (Nat.le_of_ble_eq_true rfl) ?_
  intro p e s m below meth c A ls args Q hQ X hr hin hW hl
  have hx := X.1
  have hb := X.2.1
  have hl : lv_has ls 5 [(0, .int (nI b)), (1, .int (nI x))] := hl
  refine lv_lconst (v := 1) (pc := 0) hx hb dX2_power_0 (by decide) ?_
  refine lv_lstore_n (lv' := [(2, .long 1), (0, .int (nI b)), (1, .int (nI x))]) (pc := 1) hx hb dX2_power_1 rfl hl (by decide) rfl (fun ls hl => ?_)
  refine lv_iconst (v := 0) (pc := 2) hx hb dX2_power_2 (by decide) ?_
  refine lv_istore (lv' := [(4, .int 0), (2, .long 1), (0, .int (nI b)), (1, .int (nI x))]) (pc := 3) hx hb dX2_power_3 hl (by decide) rfl (fun ls hl => ?_)
  have loop1 : ∀ (fu : Nat) (i : Nat), (x < fu + i) → (i ≤ x) → ∀ (H : Heap) (locs : List Loc) (ls : Array Slot), WD g A s H locs [] → lv_has ls 5 [(0, .int (nI b)), (1, .int (nI x)), (2, .long (lN (pw b i))), (4, .int (nI i))] → W p l e (RM 0 0 0) s m args below meth c H locs 0 0 Q (F0 m 5 ls []) := by
    intro fu
    induction fu with
    | zero =>
      intro i hm hi
      exact absurd hm (by omega)
    | succ fu ih1 =>
      intro i hm hi H locs ls hW hl
      refine lv_iload (pc := 5) hx hb dX2_power_5 (lv_at hl 3 rfl) ?_
      refine lv_iload_n (pc := 7) hx hb dX2_power_7 rfl (lv_at hl 1 rfl) ?_
      refine lv_icmp_ge (tgt := 22) (pc := 8) hx hb dX2_power_8 rfl (fun c1 => ?_) (fun c1 => ?_)
      · have hix : i = x := by have := ge_t (k := x) (by omega) (by omega) c1; omega
        refine lv_lload_n (pc := 22) hx hb dX2_power_22 rfl (lv_at hl 2 rfl) ?_
        exact e_l X hQ hr hW (u := []) [] rfl rfl (⟨by rw [hix], rfl⟩) ⟨Nat.le_of_ble_eq_true rfl, Nat.le_of_ble_eq_true rfl⟩ dX2_power_23
      · have hlt : i < x := ge_f (by omega) (by omega) c1
        refine lv_lload_n (pc := 11) hx hb dX2_power_11 rfl (lv_at hl 2 rfl) ?_
        refine lv_iload_n (pc := 12) hx hb dX2_power_12 rfl (lv_at hl 0 rfl) ?_
        refine lv_i2l (v := lN b) (pc := 13) hx hb dX2_power_13 (nI_l hb2) ?_
        refine lv_lmul (pc := 14) hx hb dX2_power_14 ?_
        refine lv_topl (fun v2 ev2 => ?_)
        obtain rfl : v2 = lN (pw b (i + 1)) := ev2.trans (lN_mul _ _)
        refine lv_lstore_n (lv' := [(2, .long (lN (pw b (i + 1)))), (0, .int (nI b)), (1, .int (nI x)), (4, .int (nI i))]) (pc := 15) hx hb dX2_power_15 rfl hl (by decide) rfl (fun ls hl => ?_)
        refine lv_iinc (v := nI (i + 1)) (lv' := [(4, .int (nI (i + 1))), (2, .long (lN (pw b (i + 1)))), (0, .int (nI b)), (1, .int (nI x))]) (pc := 16) hx hb dX2_power_16 hl (k := 3) rfl (nI_1 i) (by decide) rfl (fun ls hl => ?_)
        refine lv_goto (tgt := 5) (pc := 19) hx hb dX2_power_19 rfl ?_
        exact ih1 (i + 1) (by omega) (by omega) _ _ _ hW (lv_sub hl [2, 3, 1, 0] rfl)
  exact loop1 (x + 1) 0 (by omega) (by omega) _ _ _ hW (lv_sub hl [2, 3, 1, 0] rfl)

set_option maxHeartbeats 4000000 in
set_option maxRecDepth 100000 in
theorem C_J6_bitCount_0f7a4 (l : Launch) (g : GG) (x : Int32) : MetI l g yJ6_bitCount_0f7a4 cJ6_bitCount_0f7a4 1 (some .int) 0 0 0 [.int x] [] (fun r u => r = bcv x ∧ u = []) := by
  refine MetI.of (own := RJ6) rfl (by decide) (Nat.le_of_ble_eq_true rfl) ?_
  intro p e s m below meth c A ls args Q hQ X hr hin hW hl
  have hx := X.1
  have hb := X.2.1
  have hl : lv_has ls 1 [(0, .int x)] := hl
  refine lv_iload_n (pc := 0) hx hb dJ6_bitCount_0f7a4_0 rfl (lv_at hl 0 rfl) ?_
  refine lv_iload_n (pc := 1) hx hb dJ6_bitCount_0f7a4_1 rfl (lv_at hl 0 rfl) ?_
  refine lv_iconst (v := 1) (pc := 2) hx hb dJ6_bitCount_0f7a4_2 (by decide) ?_
  refine lv_iushr (pc := 3) hx hb dJ6_bitCount_0f7a4_3 rfl ?_
  refine lv_ldcw (pc := 4) hx hb X.2.2.2.1 (X.2.2.2.2.1 _ m_812) dJ6_bitCount_0f7a4_4 ?_
  refine lv_iand (pc := 7) hx hb dJ6_bitCount_0f7a4_7 ?_
  refine lv_isub (pc := 8) hx hb dJ6_bitCount_0f7a4_8 ?_
  refine lv_topi (fun v1 ev1 => ?_)
  obtain rfl : v1 = bc1 x := ev1.trans (rfl)
  refine lv_istore_n (lv' := [(0, .int (bc1 x))]) (pc := 9) hx hb dJ6_bitCount_0f7a4_9 rfl hl (by decide) rfl (fun ls hl => ?_)
  refine lv_iload_n (pc := 10) hx hb dJ6_bitCount_0f7a4_10 rfl (lv_at hl 0 rfl) ?_
  refine lv_ldcw (pc := 11) hx hb X.2.2.2.1 (X.2.2.2.2.1 _ m_813) dJ6_bitCount_0f7a4_11 ?_
  refine lv_iand (pc := 14) hx hb dJ6_bitCount_0f7a4_14 ?_
  refine lv_iload_n (pc := 15) hx hb dJ6_bitCount_0f7a4_15 rfl (lv_at hl 0 rfl) ?_
  refine lv_iconst (v := 2) (pc := 16) hx hb dJ6_bitCount_0f7a4_16 (by decide) ?_
  refine lv_iushr (pc := 17) hx hb dJ6_bitCount_0f7a4_17 rfl ?_
  refine lv_ldcw (pc := 18) hx hb X.2.2.2.1 (X.2.2.2.2.1 _ m_813) dJ6_bitCount_0f7a4_18 ?_
  refine lv_iand (pc := 21) hx hb dJ6_bitCount_0f7a4_21 ?_
  refine lv_iadd (pc := 22) hx hb dJ6_bitCount_0f7a4_22 ?_
  refine lv_topi (fun v2 ev2 => ?_)
  obtain rfl : v2 = bc2 (bc1 x) := ev2.trans (rfl)
  refine lv_istore_n (lv' := [(0, .int (bc2 (bc1 x)))]) (pc := 23) hx hb dJ6_bitCount_0f7a4_23 rfl hl (by decide) rfl (fun ls hl => ?_)
  refine lv_iload_n (pc := 24) hx hb dJ6_bitCount_0f7a4_24 rfl (lv_at hl 0 rfl) ?_
  refine lv_iload_n (pc := 25) hx hb dJ6_bitCount_0f7a4_25 rfl (lv_at hl 0 rfl) ?_
  refine lv_iconst (v := 4) (pc := 26) hx hb dJ6_bitCount_0f7a4_26 (by decide) ?_
  refine lv_iushr (pc := 27) hx hb dJ6_bitCount_0f7a4_27 rfl ?_
  refine lv_iadd (pc := 28) hx hb dJ6_bitCount_0f7a4_28 ?_
  refine lv_ldcw (pc := 29) hx hb X.2.2.2.1 (X.2.2.2.2.1 _ m_814) dJ6_bitCount_0f7a4_29 ?_
  refine lv_iand (pc := 32) hx hb dJ6_bitCount_0f7a4_32 ?_
  refine lv_topi (fun v3 ev3 => ?_)
  obtain rfl : v3 = bc3 (bc2 (bc1 x)) := ev3.trans (rfl)
  refine lv_istore_n (lv' := [(0, .int (bc3 (bc2 (bc1 x))))]) (pc := 33) hx hb dJ6_bitCount_0f7a4_33 rfl hl (by decide) rfl (fun ls hl => ?_)
  refine lv_iload_n (pc := 34) hx hb dJ6_bitCount_0f7a4_34 rfl (lv_at hl 0 rfl) ?_
  refine lv_iload_n (pc := 35) hx hb dJ6_bitCount_0f7a4_35 rfl (lv_at hl 0 rfl) ?_
  refine lv_bipush (v := 8) (pc := 36) hx hb dJ6_bitCount_0f7a4_36 (by decide) ?_
  refine lv_iushr (pc := 38) hx hb dJ6_bitCount_0f7a4_38 rfl ?_
  refine lv_iadd (pc := 39) hx hb dJ6_bitCount_0f7a4_39 ?_
  refine lv_topi (fun v4 ev4 => ?_)
  obtain rfl : v4 = bc4 (bc3 (bc2 (bc1 x))) := ev4.trans (rfl)
  refine lv_istore_n (lv' := [(0, .int (bc4 (bc3 (bc2 (bc1 x)))))]) (pc := 40) hx hb dJ6_bitCount_0f7a4_40 rfl hl (by decide) rfl (fun ls hl => ?_)
  refine lv_iload_n (pc := 41) hx hb dJ6_bitCount_0f7a4_41 rfl (lv_at hl 0 rfl) ?_
  refine lv_iload_n (pc := 42) hx hb dJ6_bitCount_0f7a4_42 rfl (lv_at hl 0 rfl) ?_
  refine lv_bipush (v := 16) (pc := 43) hx hb dJ6_bitCount_0f7a4_43 (by decide) ?_
  refine lv_iushr (pc := 45) hx hb dJ6_bitCount_0f7a4_45 rfl ?_
  refine lv_iadd (pc := 46) hx hb dJ6_bitCount_0f7a4_46 ?_
  refine lv_topi (fun v5 ev5 => ?_)
  obtain rfl : v5 = bc5 (bc4 (bc3 (bc2 (bc1 x)))) := ev5.trans (rfl)
  refine lv_istore_n (lv' := [(0, .int (bc5 (bc4 (bc3 (bc2 (bc1 x))))))]) (pc := 47) hx hb dJ6_bitCount_0f7a4_47 rfl hl (by decide) rfl (fun ls hl => ?_)
  refine lv_iload_n (pc := 48) hx hb dJ6_bitCount_0f7a4_48 rfl (lv_at hl 0 rfl) ?_
  refine lv_bipush (v := 63) (pc := 49) hx hb dJ6_bitCount_0f7a4_49 (by decide) ?_
  refine lv_iand (pc := 51) hx hb dJ6_bitCount_0f7a4_51 ?_
  refine lv_topi (fun v6 ev6 => ?_)
  obtain rfl : v6 = bcv x := ev6.trans (rfl)
  exact e_i X hQ hr hW (u := []) [] rfl rfl (⟨rfl, rfl⟩) ⟨Nat.le_of_ble_eq_true rfl, Nat.le_of_ble_eq_true rfl⟩ dJ6_bitCount_0f7a4_52

set_option maxHeartbeats 4000000 in
set_option maxRecDepth 100000 in
theorem C_J7_fill_d0a16 (l : Launch) (g : GG) (h0 : Nat) (f : Nat → Int64) : MetV l g yJ7_fill_d0a16 cJ7_fill_d0a16 5 none 0 0 0 [.ref h0, .long 0] [(h0, .inl (g.2.1 2, 5, .inr (.inl f)))] (fun u => ∃ f' : Nat → Int64, u = [(h0, .inl (g.2.1 2, 5, .inr (.inl f')))] ∧ ∀ j, f' j = if j < 5 then 0 else f j) := by
  refine MetV.of (own := RJ7) rfl (by decide) (Nat.le_of_ble_eq_true rfl) ?_
  intro p e s m below meth c A ls args Q hQ X hr hin hW hl
  have hx := X.1
  have hb := X.2.1
  have hl : lv_has ls 5 [(0, .ref h0), (1, .long 0)] := hl
  refine lv_iconst (v := 0) (pc := 0) hx hb dJ7_fill_d0a16_0 (by decide) ?_
  refine lv_istore_n (lv' := [(3, .int 0), (0, .ref h0), (1, .long 0)]) (pc := 1) hx hb dJ7_fill_d0a16_1 rfl hl (by decide) rfl (fun ls hl => ?_)
  refine lv_aload_n (pc := 2) hx hb dJ7_fill_d0a16_2 rfl (lv_at hl 1 rfl) ?_
  refine r_alen (v := 5) X hW 0 2 rfl rfl rfl dJ7_fill_d0a16_3 ?_
  refine lv_istore (lv' := [(4, .int 5), (3, .int 0), (0, .ref h0), (1, .long 0)]) (pc := 4) hx hb dJ7_fill_d0a16_4 hl (by decide) rfl (fun ls hl => ?_)
  refine lv_iload_n (pc := 6) hx hb dJ7_fill_d0a16_6 rfl (lv_at hl 1 rfl) ?_
  refine lv_iload (pc := 7) hx hb dJ7_fill_d0a16_7 (lv_at hl 0 rfl) ?_
  refine lv_icmp_ge (tgt := 22) (pc := 9) hx hb dJ7_fill_d0a16_9 rfl (fun c1 => absurd c1 (by decide)) (fun c1 => ?_)
  refine lv_aload_n (pc := 12) hx hb dJ7_fill_d0a16_12 rfl (lv_at hl 2 rfl) ?_
  refine lv_iload_n (pc := 13) hx hb dJ7_fill_d0a16_13 rfl (lv_at hl 1 rfl) ?_
  refine lv_lload_n (pc := 14) hx hb dJ7_fill_d0a16_14 rfl (lv_at hl 3 rfl) ?_
  obtain ⟨f2, ef2⟩ : ∃ fz : Nat → Int64, vp_updL f (0 : Int32).toNatClampNeg 0 = fz := ⟨_, rfl⟩
  refine r_last (ws' := [(h0, .inl (g.2.1 2, 5, .inr (.inl f2)))]) X hW 0 rfl (by unfold vp_in; decide) ef2 rfl dJ7_fill_d0a16_15 (fun H locs hW => ?_)
  refine lv_iinc (v := 1) (lv' := [(3, .int 1), (4, .int 5), (0, .ref h0), (1, .long 0)]) (pc := 16) hx hb dJ7_fill_d0a16_16 hl (k := 1) rfl (by decide +kernel) (by decide) rfl (fun ls hl => ?_)
  refine lv_goto (tgt := 6) (pc := 19) hx hb dJ7_fill_d0a16_19 rfl ?_
  refine lv_iload_n (pc := 6) hx hb dJ7_fill_d0a16_6 rfl (lv_at hl 0 rfl) ?_
  refine lv_iload (pc := 7) hx hb dJ7_fill_d0a16_7 (lv_at hl 1 rfl) ?_
  refine lv_icmp_ge (tgt := 22) (pc := 9) hx hb dJ7_fill_d0a16_9 rfl (fun c3 => absurd c3 (by decide)) (fun c3 => ?_)
  refine lv_aload_n (pc := 12) hx hb dJ7_fill_d0a16_12 rfl (lv_at hl 2 rfl) ?_
  refine lv_iload_n (pc := 13) hx hb dJ7_fill_d0a16_13 rfl (lv_at hl 0 rfl) ?_
  refine lv_lload_n (pc := 14) hx hb dJ7_fill_d0a16_14 rfl (lv_at hl 3 rfl) ?_
  obtain ⟨f4, ef4⟩ : ∃ fz : Nat → Int64, vp_updL f2 (1 : Int32).toNatClampNeg 0 = fz := ⟨_, rfl⟩
  refine r_last (ws' := [(h0, .inl (g.2.1 2, 5, .inr (.inl f4)))]) X hW 0 rfl (by unfold vp_in; decide) ef4 rfl dJ7_fill_d0a16_15 (fun H locs hW => ?_)
  refine lv_iinc (v := 2) (lv' := [(3, .int 2), (4, .int 5), (0, .ref h0), (1, .long 0)]) (pc := 16) hx hb dJ7_fill_d0a16_16 hl (k := 0) rfl (by decide +kernel) (by decide) rfl (fun ls hl => ?_)
  refine lv_goto (tgt := 6) (pc := 19) hx hb dJ7_fill_d0a16_19 rfl ?_
  refine lv_iload_n (pc := 6) hx hb dJ7_fill_d0a16_6 rfl (lv_at hl 0 rfl) ?_
  refine lv_iload (pc := 7) hx hb dJ7_fill_d0a16_7 (lv_at hl 1 rfl) ?_
  refine lv_icmp_ge (tgt := 22) (pc := 9) hx hb dJ7_fill_d0a16_9 rfl (fun c5 => absurd c5 (by decide)) (fun c5 => ?_)
  refine lv_aload_n (pc := 12) hx hb dJ7_fill_d0a16_12 rfl (lv_at hl 2 rfl) ?_
  refine lv_iload_n (pc := 13) hx hb dJ7_fill_d0a16_13 rfl (lv_at hl 0 rfl) ?_
  refine lv_lload_n (pc := 14) hx hb dJ7_fill_d0a16_14 rfl (lv_at hl 3 rfl) ?_
  obtain ⟨f6, ef6⟩ : ∃ fz : Nat → Int64, vp_updL f4 (2 : Int32).toNatClampNeg 0 = fz := ⟨_, rfl⟩
  refine r_last (ws' := [(h0, .inl (g.2.1 2, 5, .inr (.inl f6)))]) X hW 0 rfl (by unfold vp_in; decide) ef6 rfl dJ7_fill_d0a16_15 (fun H locs hW => ?_)
  refine lv_iinc (v := 3) (lv' := [(3, .int 3), (4, .int 5), (0, .ref h0), (1, .long 0)]) (pc := 16) hx hb dJ7_fill_d0a16_16 hl (k := 0) rfl (by decide +kernel) (by decide) rfl (fun ls hl => ?_)
  refine lv_goto (tgt := 6) (pc := 19) hx hb dJ7_fill_d0a16_19 rfl ?_
  refine lv_iload_n (pc := 6) hx hb dJ7_fill_d0a16_6 rfl (lv_at hl 0 rfl) ?_
  refine lv_iload (pc := 7) hx hb dJ7_fill_d0a16_7 (lv_at hl 1 rfl) ?_
  refine lv_icmp_ge (tgt := 22) (pc := 9) hx hb dJ7_fill_d0a16_9 rfl (fun c7 => absurd c7 (by decide)) (fun c7 => ?_)
  refine lv_aload_n (pc := 12) hx hb dJ7_fill_d0a16_12 rfl (lv_at hl 2 rfl) ?_
  refine lv_iload_n (pc := 13) hx hb dJ7_fill_d0a16_13 rfl (lv_at hl 0 rfl) ?_
  refine lv_lload_n (pc := 14) hx hb dJ7_fill_d0a16_14 rfl (lv_at hl 3 rfl) ?_
  obtain ⟨f8, ef8⟩ : ∃ fz : Nat → Int64, vp_updL f6 (3 : Int32).toNatClampNeg 0 = fz := ⟨_, rfl⟩
  refine r_last (ws' := [(h0, .inl (g.2.1 2, 5, .inr (.inl f8)))]) X hW 0 rfl (by unfold vp_in; decide) ef8 rfl dJ7_fill_d0a16_15 (fun H locs hW => ?_)
  refine lv_iinc (v := 4) (lv' := [(3, .int 4), (4, .int 5), (0, .ref h0), (1, .long 0)]) (pc := 16) hx hb dJ7_fill_d0a16_16 hl (k := 0) rfl (by decide +kernel) (by decide) rfl (fun ls hl => ?_)
  refine lv_goto (tgt := 6) (pc := 19) hx hb dJ7_fill_d0a16_19 rfl ?_
  refine lv_iload_n (pc := 6) hx hb dJ7_fill_d0a16_6 rfl (lv_at hl 0 rfl) ?_
  refine lv_iload (pc := 7) hx hb dJ7_fill_d0a16_7 (lv_at hl 1 rfl) ?_
  refine lv_icmp_ge (tgt := 22) (pc := 9) hx hb dJ7_fill_d0a16_9 rfl (fun c9 => absurd c9 (by decide)) (fun c9 => ?_)
  refine lv_aload_n (pc := 12) hx hb dJ7_fill_d0a16_12 rfl (lv_at hl 2 rfl) ?_
  refine lv_iload_n (pc := 13) hx hb dJ7_fill_d0a16_13 rfl (lv_at hl 0 rfl) ?_
  refine lv_lload_n (pc := 14) hx hb dJ7_fill_d0a16_14 rfl (lv_at hl 3 rfl) ?_
  obtain ⟨f10, ef10⟩ : ∃ fz : Nat → Int64, vp_updL f8 (4 : Int32).toNatClampNeg 0 = fz := ⟨_, rfl⟩
  refine r_last (ws' := [(h0, .inl (g.2.1 2, 5, .inr (.inl f10)))]) X hW 0 rfl (by unfold vp_in; decide) ef10 rfl dJ7_fill_d0a16_15 (fun H locs hW => ?_)
  refine lv_iinc (v := 5) (lv' := [(3, .int 5), (4, .int 5), (0, .ref h0), (1, .long 0)]) (pc := 16) hx hb dJ7_fill_d0a16_16 hl (k := 0) rfl (by decide +kernel) (by decide) rfl (fun ls hl => ?_)
  refine lv_goto (tgt := 6) (pc := 19) hx hb dJ7_fill_d0a16_19 rfl ?_
  refine lv_iload_n (pc := 6) hx hb dJ7_fill_d0a16_6 rfl (lv_at hl 0 rfl) ?_
  refine lv_iload (pc := 7) hx hb dJ7_fill_d0a16_7 (lv_at hl 1 rfl) ?_
  refine lv_icmp_ge (tgt := 22) (pc := 9) hx hb dJ7_fill_d0a16_9 rfl (fun c11 => ?_) (fun c11 => absurd (by decide) c11)
  exact e_v X hQ hr hW (u := [(h0, .inl (g.2.1 2, 5, .inr (.inl f10)))]) [0] rfl rfl (⟨f10, rfl, fun j => by rw [updL_at (i := 4) (by decide) ef10 j, updL_at (i := 3) (by decide) ef8 j, updL_at (i := 2) (by decide) ef6 j, updL_at (i := 1) (by decide) ef4 j, updL_at (i := 0) (by decide) ef2 j]; (repeat' split) <;> first | rfl | (exfalso; omega)⟩) ⟨Nat.le_of_ble_eq_true rfl, Nat.le_of_ble_eq_true rfl⟩ dJ7_fill_d0a16_22

set_option maxHeartbeats 4000000 in
set_option maxRecDepth 100000 in
theorem C_X2_goOn (l : Launch) (g : GG) (h0 c0 c1 n kw : Nat) (la lb : List Int64) (hn : 2 ≤ n) (hn4 : n ≤ 4) (hk1 : 1 ≤ kw) (hk : kw ≤ n) (hlb : lb.length = 5) : MetV l g yX2_goOn cX2_goOn 13 none 1 0 0 [.ref h0, .int (nI n), .int (nI kw)] [(h0, .inr (2, [.ref c0, .ref c1])), (c0, .inl (g.2.1 2, 5, .inr (.inl (lf la)))), (c1, .inl (g.2.1 2, 5, .inr (.inl (lf (lb)))))] (fun u => u = [(h0, .inr (2, [.ref c0, .ref c1])), (c0, .inl (g.2.1 2, 5, .inr (.inl (lf la)))), (c1, .inl (g.2.1 2, 5, .inr (.inl (lf (goL n kw (la.getD kw 0 * lN (pw (n - 1) (n - kw))) lb (pw (n - 1) kw))))))]) := by
  refine MetV.of (own := RX2) rfl (by decide) (Nat.le_of_ble_eq_true rfl) ?_
  intro p e s m below meth c A ls args Q hQ X hr hin hW hl
  have hx := X.1
  have hb := X.2.1
  have hl : lv_has ls 13 [(0, .ref h0), (1, .int (nI n)), (2, .int (nI kw))] := hl
  have hpw := pw81 n (by omega) kw (by omega)
  refine lv_iload_n (pc := 0) hx hb dX2_goOn_0 rfl (lv_at hl 1 rfl) ?_
  refine lv_iconst (v := 1) (pc := 1) hx hb dX2_goOn_1 (by decide) ?_
  refine lv_isub (pc := 2) hx hb dX2_goOn_2 ?_
  refine lv_topi (fun v1 ev1 => ?_)
  obtain rfl : v1 = nI (n - 1) := ev1.trans (pk_sub (a := n) (b := 1) (by omega))
  refine lv_iload_n (pc := 3) hx hb dX2_goOn_3 rfl (lv_at hl 1 rfl) ?_
  refine lv_iload_n (pc := 4) hx hb dX2_goOn_4 rfl (lv_at hl 2 rfl) ?_
  refine lv_isub (pc := 5) hx hb dX2_goOn_5 ?_
  refine lv_topi (fun v2 ev2 => ?_)
  obtain rfl : v2 = nI (n - kw) := ev2.trans (pk_sub hk)
  refine c_Sl (pc := 6) (As := [.int (nI (n - 1)), .int (nI (n - kw))]) (rest := []) (wr := [(h0, .inr (2, [.ref c0, .ref c1])), (c0, .inl (g.2.1 2, 5, .inr (.inl (lf la)))), (c1, .inl (g.2.1 2, 5, .inr (.inl (lf (lb)))))]) X hW (C_X2_power l g (n - 1) (n - kw) (by omega) (by omega)) vX2_28 [] [0, 1, 2] rfl rfl rfl rfl rfl rfl hl.1 rfl (Nat.le_of_ble_eq_true rfl) ⟨Nat.le_of_ble_eq_true rfl, Nat.le_of_ble_eq_true rfl⟩ ⟨Nat.le_of_ble_eq_true rfl, Nat.le_of_ble_eq_true rfl⟩ dX2_goOn_6 (fun r3 u9 H locs hq hW => ?_)
  obtain ⟨rfl, rfl⟩ := hq
  have hW : WD g A s _ _ [(h0, .inr (2, [.ref c0, .ref c1])), (c0, .inl (g.2.1 2, 5, .inr (.inl (lf la)))), (c1, .inl (g.2.1 2, 5, .inr (.inl (lf (lb)))))] := hW
  refine lv_lstore_n (lv' := [(3, .long (lN (pw (n - 1) (n - kw)))), (0, .ref h0), (1, .int (nI n)), (2, .int (nI kw))]) (pc := 9) hx hb dX2_goOn_9 rfl hl (by decide) rfl (fun ls hl => ?_)
  refine lv_iload_n (pc := 10) hx hb dX2_goOn_10 rfl (lv_at hl 2 rfl) ?_
  refine lv_iconst (v := 1) (pc := 11) hx hb dX2_goOn_11 (by decide) ?_
  refine lv_isub (pc := 12) hx hb dX2_goOn_12 ?_
  refine lv_topi (fun v4 ev4 => ?_)
  obtain rfl : v4 = nI (n - 1) := ev4.trans (pk_sub (a := n) (b := 1) (by omega))
  refine lv_iload_n (pc := 13) hx hb dX2_goOn_13 rfl (lv_at hl 3 rfl) ?_
  refine c_Sl (pc := 14) (As := [.int (nI (n - 1)), .int (nI kw)]) (rest := []) (wr := [(h0, .inr (2, [.ref c0, .ref c1])), (c0, .inl (g.2.1 2, 5, .inr (.inl (lf la)))), (c1, .inl (g.2.1 2, 5, .inr (.inl (lf (lb)))))]) X hW (C_X2_power l g (n - 1) kw (by omega) (by omega)) vX2_28 [] [0, 1, 2] rfl rfl rfl rfl rfl rfl hl.1 rfl (Nat.le_of_ble_eq_true rfl) ⟨Nat.le_of_ble_eq_true rfl, Nat.le_of_ble_eq_true rfl⟩ ⟨Nat.le_of_ble_eq_true rfl, Nat.le_of_ble_eq_true rfl⟩ dX2_goOn_14 (fun r5 u9 H locs hq hW => ?_)
  obtain ⟨rfl, rfl⟩ := hq
  have hW : WD g A s _ _ [(h0, .inr (2, [.ref c0, .ref c1])), (c0, .inl (g.2.1 2, 5, .inr (.inl (lf la)))), (c1, .inl (g.2.1 2, 5, .inr (.inl (lf (lb)))))] := hW
  refine lv_lstore (lv' := [(5, .long (lN (pw (n - 1) kw))), (3, .long (lN (pw (n - 1) (n - kw)))), (0, .ref h0), (1, .int (nI n)), (2, .int (nI kw))]) (pc := 17) hx hb dX2_goOn_17 hl (by decide) rfl (fun ls hl => ?_)
  refine lv_lconst (v := 0) (pc := 19) hx hb dX2_goOn_19 (by decide) ?_
  refine lv_lstore (lv' := [(7, .long 0), (5, .long (lN (pw (n - 1) kw))), (3, .long (lN (pw (n - 1) (n - kw)))), (0, .ref h0), (1, .int (nI n)), (2, .int (nI kw))]) (pc := 20) hx hb dX2_goOn_20 hl (by decide) rfl (fun ls hl => ?_)
  have loop1 : ∀ (fu : Nat) (ci : Nat), (pw (n - 1) kw < fu + ci) → (ci ≤ pw (n - 1) kw) → ∀ (H : Heap) (locs : List Loc) (ls : Array Slot), WD g A s H locs [(h0, .inr (2, [.ref c0, .ref c1])), (c0, .inl (g.2.1 2, 5, .inr (.inl (lf la)))), (c1, .inl (g.2.1 2, 5, .inr (.inl (lf (goL n kw (la.getD kw 0 * lN (pw (n - 1) (n - kw))) lb ci)))))] → lv_has ls 13 [(0, .ref h0), (1, .int (nI n)), (2, .int (nI kw)), (3, .long (lN (pw (n - 1) (n - kw)))), (5, .long (lN (pw (n - 1) kw))), (7, .long (lN ci))] → W p l e (RM 1 0 0) s m args below meth c H locs 0 0 Q (F0 m 22 ls []) := by
    intro fu
    induction fu with
    | zero =>
      intro ci hm hc
      exact absurd hm (by omega)
    | succ fu ih1 =>
      intro ci hm hc H locs ls hW hl
      refine lv_lload (pc := 22) hx hb dX2_goOn_22 (lv_at hl 5 rfl) ?_
      refine lv_lload (pc := 24) hx hb dX2_goOn_24 (lv_at hl 4 rfl) ?_
      refine W.lcmp (pc := 26) hx hb dX2_goOn_26 ?_
      refine lv_if_ge (tgt := 133) (pc := 27) hx hb dX2_goOn_27 rfl (fun c6 => ?_) (fun c6 => ?_)
      · have hcc : ci = pw (n - 1) kw := by
          have q := (lg_cmp_ge _ _).mp c6
          rw [pk_lLE (by omega) (by omega)] at q; omega
        rw [hcc] at hW
        exact e_v X hQ hr hW (u := [(h0, .inr (2, [.ref c0, .ref c1])), (c0, .inl (g.2.1 2, 5, .inr (.inl (lf la)))), (c1, .inl (g.2.1 2, 5, .inr (.inl (lf (goL n kw (la.getD kw 0 * lN (pw (n - 1) (n - kw))) lb (pw (n - 1) kw))))))]) [0, 1, 2] rfl rfl (rfl) ⟨Nat.le_of_ble_eq_true rfl, Nat.le_of_ble_eq_true rfl⟩ dX2_goOn_133
      · have hlt : ci < pw (n - 1) kw := by
          have q : ¬ lN (pw (n - 1) kw) ≤ lN ci := fun q => c6 ((lg_cmp_ge _ _).mpr q)
          rw [pk_lLE (by omega) (by omega)] at q; omega
        refine lv_iconst (v := 1) (pc := 30) hx hb dX2_goOn_30 (by decide) ?_
        refine lv_iload_n (pc := 31) hx hb dX2_goOn_31 rfl (lv_at hl 2 rfl) ?_
        refine lv_ishl (pc := 32) hx hb dX2_goOn_32 ?_
        refine lv_topi (fun v7 ev7 => ?_)
        obtain rfl : v7 = nI (2 ^ kw) := ev7.trans (shl_n kw (by omega))
        refine lv_iconst (v := 1) (pc := 33) hx hb dX2_goOn_33 (by decide) ?_
        refine lv_isub (pc := 34) hx hb dX2_goOn_34 ?_
        refine lv_topi (fun v8 ev8 => ?_)
        obtain rfl : v8 = nI (2 ^ kw - 1) := ev8.trans (pk_sub (a := 2 ^ kw) (b := 1) (Nat.pos_of_ne_zero (by simp)))
        refine lv_istore (lv' := [(9, .int (nI (2 ^ kw - 1))), (0, .ref h0), (1, .int (nI n)), (2, .int (nI kw)), (3, .long (lN (pw (n - 1) (n - kw)))), (5, .long (lN (pw (n - 1) kw))), (7, .long (lN ci))]) (pc := 35) hx hb dX2_goOn_35 hl (by decide) rfl (fun ls hl => ?_)
        refine lv_lload (pc := 37) hx hb dX2_goOn_37 (lv_at hl 6 rfl) ?_
        refine lv_lstore (lv' := [(10, .long (lN ci)), (9, .int (nI (2 ^ kw - 1))), (0, .ref h0), (1, .int (nI n)), (2, .int (nI kw)), (3, .long (lN (pw (n - 1) (n - kw)))), (5, .long (lN (pw (n - 1) kw))), (7, .long (lN ci))]) (pc := 39) hx hb dX2_goOn_39 hl (by decide) rfl (fun ls hl => ?_)
        refine lv_iconst (v := 0) (pc := 41) hx hb dX2_goOn_41 (by decide) ?_
        refine lv_istore (lv' := [(12, .int 0), (10, .long (lN ci)), (9, .int (nI (2 ^ kw - 1))), (0, .ref h0), (1, .int (nI n)), (2, .int (nI kw)), (3, .long (lN (pw (n - 1) (n - kw)))), (5, .long (lN (pw (n - 1) kw))), (7, .long (lN ci))]) (pc := 42) hx hb dX2_goOn_42 hl (by decide) rfl (fun ls hl => ?_)
        have loop2 : ∀ (fv : Nat) (o : Nat), (kw < fv + o) → (o ≤ kw) → ∀ (H : Heap) (locs : List Loc) (ls : Array Slot), WD g A s H locs [(h0, .inr (2, [.ref c0, .ref c1])), (c0, .inl (g.2.1 2, 5, .inr (.inl (lf la)))), (c1, .inl (g.2.1 2, 5, .inr (.inl (lf (goL n kw (la.getD kw 0 * lN (pw (n - 1) (n - kw))) lb ci)))))] → lv_has ls 13 [(0, .ref h0), (1, .int (nI n)), (2, .int (nI kw)), (3, .long (lN (pw (n - 1) (n - kw)))), (5, .long (lN (pw (n - 1) kw))), (7, .long (lN ci)), (9, .int (nI (gk n kw ci o).1)), (10, .long (lN (gk n kw ci o).2)), (12, .int (nI o))] → W p l e (RM 1 0 0) s m args below meth c H locs 0 0 Q (F0 m 44 ls []) := by
          intro fv
          induction fv with
          | zero =>
            intro o hm2 ho
            exact absurd hm2 (by omega)
          | succ fv ih2 =>
            intro o hm2 ho H locs ls hW hl
            refine lv_iload (pc := 44) hx hb dX2_goOn_44 (lv_at hl 8 rfl) ?_
            refine lv_iload_n (pc := 46) hx hb dX2_goOn_46 rfl (lv_at hl 2 rfl) ?_
            refine lv_icmp_ge (tgt := 93) (pc := 47) hx hb dX2_goOn_47 rfl (fun c9 => ?_) (fun c9 => ?_)
            · have hok : o = kw := by have := ge_t (k := kw) (by omega) (by omega) c9; omega
              rw [hok] at hl
              obtain ⟨hg1, hg2⟩ := gk_in (kw := kw) (c := ci) hn hn4 (by omega) kw (by omega)
              have hp4 := pop4_le _ hg1
              refine lv_iload (pc := 93) hx hb dX2_goOn_93 (lv_at hl 6 rfl) ?_
              refine c_Si (pc := 95) (As := [.int (nI (gk n kw ci kw).1)]) (rest := []) (wr := [(h0, .inr (2, [.ref c0, .ref c1])), (c0, .inl (g.2.1 2, 5, .inr (.inl (lf la)))), (c1, .inl (g.2.1 2, 5, .inr (.inl (lf (goL n kw (la.getD kw 0 * lN (pw (n - 1) (n - kw))) lb ci)))))]) X hW (C_J6_bitCount_0f7a4 l g (nI (gk n kw ci kw).1)) vX2_41 [] [0, 1, 2] rfl rfl rfl rfl rfl rfl hl.1 rfl (Nat.le_of_ble_eq_true rfl) ⟨Nat.le_of_ble_eq_true rfl, Nat.le_of_ble_eq_true rfl⟩ ⟨Nat.le_of_ble_eq_true rfl, Nat.le_of_ble_eq_true rfl⟩ dX2_goOn_95 (fun r10 u9 H locs hq hW => ?_)
              obtain ⟨hr9, rfl⟩ := hq
              obtain rfl : r10 = nI (pop4 ((gk n kw ci kw).1)) := hr9.trans (bc_n _ hg1)
              have hW : WD g A s _ _ [(h0, .inr (2, [.ref c0, .ref c1])), (c0, .inl (g.2.1 2, 5, .inr (.inl (lf la)))), (c1, .inl (g.2.1 2, 5, .inr (.inl (lf (goL n kw (la.getD kw 0 * lN (pw (n - 1) (n - kw))) lb ci)))))] := hW
              refine lv_istore (lv' := [(12, .int (nI (pop4 ((gk n kw ci kw).1)))), (0, .ref h0), (1, .int (nI n)), (2, .int (nI kw)), (3, .long (lN (pw (n - 1) (n - kw)))), (5, .long (lN (pw (n - 1) kw))), (7, .long (lN ci)), (9, .int (nI (gk n kw ci kw).1)), (10, .long (lN (gk n kw ci kw).2))]) (pc := 98) hx hb dX2_goOn_98 hl (by decide) rfl (fun ls hl => ?_)
              refine lv_iload (pc := 100) hx hb dX2_goOn_100 (lv_at hl 0 rfl) ?_
              refine lv_iconst (v := 4) (pc := 102) hx hb dX2_goOn_102 (by decide) ?_
              refine lv_icmp_gt (tgt := 124) (pc := 103) hx hb dX2_goOn_103 rfl (fun c11 => absurd c11 (fun q => absurd (lt_t (i := 4) (k := pop4 (gk n kw ci kw).1) (by decide) (by omega) q) (by omega))) (fun c11 => ?_)
              refine lv_aload_n (pc := 106) hx hb dX2_goOn_106 rfl (lv_at hl 1 rfl) ?_
              refine r_get X hW 0 ciX2 1 rfl (by decide) m_260 rfl rfl dX2_goOn_107 ?_
              refine lv_iload (pc := 110) hx hb dX2_goOn_110 (lv_at hl 0 rfl) ?_
              refine lv_dup2_11 (pc := 112) hx hb dX2_goOn_112 rfl rfl ?_
              refine r_lald X hW 2 rfl (vp_in_nI (by omega) (by decide)) dX2_goOn_113 ?_
              refine lv_topl (fun v12 ev12 => ?_)
              obtain rfl : v12 = (goL n kw (la.getD kw 0 * lN (pw (n - 1) (n - kw))) lb ci).getD (pop4 (gk n kw ci kw).1) 0 := ev12.trans (by rw [nI_clamp (by omega)])
              refine lv_aload_n (pc := 114) hx hb dX2_goOn_114 rfl (lv_at hl 1 rfl) ?_
              refine r_get X hW 0 ciX2 0 rfl (by decide) m_259 rfl rfl dX2_goOn_115 ?_
              refine lv_iload_n (pc := 118) hx hb dX2_goOn_118 rfl (lv_at hl 3 rfl) ?_
              refine r_lald X hW 1 rfl (vp_in_nI (by omega) (by decide)) dX2_goOn_119 ?_
              refine lv_topl (fun v13 ev13 => ?_)
              obtain rfl : v13 = la.getD kw 0 := ev13.trans (by rw [nI_clamp (by omega)])
              refine lv_lload_n (pc := 120) hx hb dX2_goOn_120 rfl (lv_at hl 4 rfl) ?_
              refine lv_lmul (pc := 121) hx hb dX2_goOn_121 ?_
              refine lv_topl (fun v14 ev14 => ?_)
              obtain rfl : v14 = la.getD kw 0 * lN (pw (n - 1) (n - kw)) := ev14.trans (rfl)
              refine lv_ladd (pc := 122) hx hb dX2_goOn_122 ?_
              obtain ⟨f15, ef15⟩ : ∃ fz : Nat → Int64, vp_updL (lf (goL n kw (la.getD kw 0 * lN (pw (n - 1) (n - kw))) lb ci)) (nI (pop4 ((gk n kw ci kw).1))).toNatClampNeg (((goL n kw (la.getD kw 0 * lN (pw (n - 1) (n - kw))) lb ci).getD (pop4 (gk n kw ci kw).1) 0) + (la.getD kw 0 * lN (pw (n - 1) (n - kw)))) = fz := ⟨_, rfl⟩
              refine r_last (ws' := [(h0, .inr (2, [.ref c0, .ref c1])), (c0, .inl (g.2.1 2, 5, .inr (.inl (lf la)))), (c1, .inl (g.2.1 2, 5, .inr (.inl f15)))]) X hW 2 rfl (vp_in_nI (by omega) (by decide)) ef15 rfl dX2_goOn_123 (fun H locs hW => ?_)
              refine lv_lload (pc := 124) hx hb dX2_goOn_124 (lv_at hl 6 rfl) ?_
              refine lv_lconst (v := 1) (pc := 126) hx hb dX2_goOn_126 (by decide) ?_
              refine lv_ladd (pc := 127) hx hb dX2_goOn_127 ?_
              refine lv_topl (fun v16 ev16 => ?_)
              obtain rfl : v16 = lN (ci + 1) := ev16.trans (lN_1 ci)
              refine lv_lstore (lv' := [(7, .long (lN (ci + 1))), (12, .int (nI (pop4 ((gk n kw ci kw).1)))), (0, .ref h0), (1, .int (nI n)), (2, .int (nI kw)), (3, .long (lN (pw (n - 1) (n - kw)))), (5, .long (lN (pw (n - 1) kw))), (9, .int (nI (gk n kw ci kw).1)), (10, .long (lN (gk n kw ci kw).2))]) (pc := 128) hx hb dX2_goOn_128 hl (by decide) rfl (fun ls hl => ?_)
              refine lv_goto (tgt := 22) (pc := 130) hx hb dX2_goOn_130 rfl ?_
              obtain rfl : f15 = lf (goL n kw (la.getD kw 0 * lN (pw (n - 1) (n - kw))) lb (ci + 1)) := ef15.symm.trans (by rw [nI_clamp (by omega)]; exact lf_set (by rw [goL_len, hlb]; omega))
              exact ih1 (ci + 1) (by omega) (by omega) _ _ _ hW (lv_sub hl [2, 3, 4, 5, 6, 0] rfl)
            · have hlo : o < kw := ge_f (by omega) (by omega) c9
              obtain ⟨hg1, hg2⟩ := gk_in (kw := kw) (c := ci) hn hn4 (by omega) o (by omega)
              have hmd : (gk n kw ci o).2 % (n - 1) < n - 1 := Nat.mod_lt _ (by omega)
              refine lv_iload (pc := 50) hx hb dX2_goOn_50 (lv_at hl 6 rfl) ?_
              refine lv_iconst (v := 1) (pc := 52) hx hb dX2_goOn_52 (by decide) ?_
              refine lv_iload (pc := 53) hx hb dX2_goOn_53 (lv_at hl 8 rfl) ?_
              refine lv_lload (pc := 55) hx hb dX2_goOn_55 (lv_at hl 7 rfl) ?_
              refine lv_iconst (v := 1) (pc := 57) hx hb dX2_goOn_57 (by decide) ?_
              refine lv_iload_n (pc := 58) hx hb dX2_goOn_58 rfl (lv_at hl 1 rfl) ?_
              refine lv_iconst (v := 1) (pc := 59) hx hb dX2_goOn_59 (by decide) ?_
              refine lv_isub (pc := 60) hx hb dX2_goOn_60 ?_
              refine lv_topi (fun v17 ev17 => ?_)
              obtain rfl : v17 = nI (n - 1) := ev17.trans (pk_sub (a := n) (b := 1) (by omega))
              refine va_mmax (pc := 61) hx hb (X.2.2.1.trans hl.1.symm) X.2.2.2.1 (X.2.2.2.2.1 _ mm_X2_61) (X.2.2.2.2.1 _ mms_max) (X.2.2.2.2.1 _ m_19) (X.2.2.2.2.1 _ mmc_max) (Nat.le_of_ble_eq_true rfl) (Nat.le_of_ble_eq_true rfl) (Nat.le_of_ble_eq_true rfl) (Nat.le_of_ble_eq_true rfl) dX2_goOn_61 ?_
              refine lv_topi (fun v18 ev18 => ?_)
              obtain rfl : v18 = nI (n - 1) := ev18.trans (mx1 n (by omega) hn)
              refine lv_i2l (v := lN (n - 1)) (pc := 64) hx hb dX2_goOn_64 (nI_l (by omega)) ?_
              refine lv_lrem (pc := 65) hx hb dX2_goOn_65 (nz1 hn (by omega)) ?_
              refine lv_topl (fun v19 ev19 => ?_)
              obtain rfl : v19 = lN ((gk n kw ci o).2 % (n - 1)) := ev19.trans (pk_lRem (by omega) (by omega) (by omega))
              refine lv_l2i (v := nI ((gk n kw ci o).2 % (n - 1))) (pc := 66) hx hb dX2_goOn_66 (lN_i _) ?_
              refine c_Si (pc := 67) (As := [.int (nI o), .int (nI ((gk n kw ci o).2 % (n - 1)))]) (rest := [.int 1, .int (nI (gk n kw ci o).1)]) (wr := [(h0, .inr (2, [.ref c0, .ref c1])), (c0, .inl (g.2.1 2, 5, .inr (.inl (lf la)))), (c1, .inl (g.2.1 2, 5, .inr (.inl (lf (goL n kw (la.getD kw 0 * lN (pw (n - 1) (n - kw))) lb ci)))))]) X hW (C_X2_other l g (nI o) (nI ((gk n kw ci o).2 % (n - 1)))) vX2_38 [] [0, 1, 2] rfl rfl rfl rfl rfl rfl hl.1 rfl (Nat.le_of_ble_eq_true rfl) ⟨Nat.le_of_ble_eq_true rfl, Nat.le_of_ble_eq_true rfl⟩ ⟨Nat.le_of_ble_eq_true rfl, Nat.le_of_ble_eq_true rfl⟩ dX2_goOn_67 (fun r20 u9 H locs hq hW => ?_)
              obtain ⟨rfl, rfl⟩ := hq
              have hW : WD g A s _ _ [(h0, .inr (2, [.ref c0, .ref c1])), (c0, .inl (g.2.1 2, 5, .inr (.inl (lf la)))), (c1, .inl (g.2.1 2, 5, .inr (.inl (lf (goL n kw (la.getD kw 0 * lN (pw (n - 1) (n - kw))) lb ci)))))] := hW
              refine lv_ishl (pc := 70) hx hb dX2_goOn_70 ?_
              refine lv_topi (fun v21 ev21 => ?_)
              obtain rfl : v21 = nI (2 ^ othN o ((gk n kw ci o).2 % (n - 1))) := ev21.trans (by rw [oth_n (by omega) (by omega)]; exact shl_n _ (by have := oth_4 hn hn4 (o := o) (by omega) hmd; omega))
              refine lv_ior (pc := 71) hx hb dX2_goOn_71 ?_
              refine lv_topi (fun v22 ev22 => ?_)
              obtain rfl : v22 = nI (gk n kw ci (o + 1)).1 := ev22.trans (fa_or _ _)
              refine lv_istore (lv' := [(9, .int (nI (gk n kw ci (o + 1)).1)), (0, .ref h0), (1, .int (nI n)), (2, .int (nI kw)), (3, .long (lN (pw (n - 1) (n - kw)))), (5, .long (lN (pw (n - 1) kw))), (7, .long (lN ci)), (10, .long (lN (gk n kw ci o).2)), (12, .int (nI o))]) (pc := 72) hx hb dX2_goOn_72 hl (by decide) rfl (fun ls hl => ?_)
              refine lv_lload (pc := 74) hx hb dX2_goOn_74 (lv_at hl 7 rfl) ?_
              refine lv_iconst (v := 1) (pc := 76) hx hb dX2_goOn_76 (by decide) ?_
              refine lv_iload_n (pc := 77) hx hb dX2_goOn_77 rfl (lv_at hl 2 rfl) ?_
              refine lv_iconst (v := 1) (pc := 78) hx hb dX2_goOn_78 (by decide) ?_
              refine lv_isub (pc := 79) hx hb dX2_goOn_79 ?_
              refine lv_topi (fun v23 ev23 => ?_)
              obtain rfl : v23 = nI (n - 1) := ev23.trans (pk_sub (a := n) (b := 1) (by omega))
              refine va_mmax (pc := 80) hx hb (X.2.2.1.trans hl.1.symm) X.2.2.2.1 (X.2.2.2.2.1 _ mm_X2_80) (X.2.2.2.2.1 _ mms_max) (X.2.2.2.2.1 _ m_19) (X.2.2.2.2.1 _ mmc_max) (Nat.le_of_ble_eq_true rfl) (Nat.le_of_ble_eq_true rfl) (Nat.le_of_ble_eq_true rfl) (Nat.le_of_ble_eq_true rfl) dX2_goOn_80 ?_
              refine lv_topi (fun v24 ev24 => ?_)
              obtain rfl : v24 = nI (n - 1) := ev24.trans (mx1 n (by omega) hn)
              refine lv_i2l (v := lN (n - 1)) (pc := 83) hx hb dX2_goOn_83 (nI_l (by omega)) ?_
              refine lv_ldiv (pc := 84) hx hb dX2_goOn_84 (nz1 hn (by omega)) ?_
              refine lv_topl (fun v25 ev25 => ?_)
              obtain rfl : v25 = lN (gk n kw ci (o + 1)).2 := ev25.trans (pk_lDiv (by omega) (by omega) (by omega))
              refine lv_lstore (lv' := [(10, .long (lN (gk n kw ci (o + 1)).2)), (9, .int (nI (gk n kw ci (o + 1)).1)), (0, .ref h0), (1, .int (nI n)), (2, .int (nI kw)), (3, .long (lN (pw (n - 1) (n - kw)))), (5, .long (lN (pw (n - 1) kw))), (7, .long (lN ci)), (12, .int (nI o))]) (pc := 85) hx hb dX2_goOn_85 hl (by decide) rfl (fun ls hl => ?_)
              refine lv_iinc (v := nI (o + 1)) (lv' := [(12, .int (nI (o + 1))), (10, .long (lN (gk n kw ci (o + 1)).2)), (9, .int (nI (gk n kw ci (o + 1)).1)), (0, .ref h0), (1, .int (nI n)), (2, .int (nI kw)), (3, .long (lN (pw (n - 1) (n - kw)))), (5, .long (lN (pw (n - 1) kw))), (7, .long (lN ci))]) (pc := 87) hx hb dX2_goOn_87 hl (k := 8) rfl (nI_1 o) (by decide) rfl (fun ls hl => ?_)
              refine lv_goto (tgt := 44) (pc := 90) hx hb dX2_goOn_90 rfl ?_
              exact ih2 (o + 1) (by omega) (by omega) _ _ _ hW (lv_sub hl [3, 4, 5, 6, 7, 8, 2, 1, 0] rfl)
        exact loop2 (kw + 1) 0 (by omega) (by omega) _ _ _ hW (lv_sub hl [3, 4, 5, 6, 7, 8, 2, 1, 0] rfl)
  exact loop1 (pw (n - 1) kw + 1) 0 (by omega) (by omega) _ _ _ hW (lv_sub hl [3, 4, 5, 2, 1, 0] rfl)

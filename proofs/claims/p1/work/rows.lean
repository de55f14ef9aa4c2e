section
/-! plain facts on numbers and arrays, to paste: each family by itself; over the kit's rows on nI and upd -/
/-! ===== order of ints, in all its forms, and through longs ===== -/
theorem fa_lt (a b : Int32) : a < b ↔ a.toInt < b.toInt := Int32.lt_iff_toInt_lt
theorem fa_le (a b : Int32) : a ≤ b ↔ a.toInt ≤ b.toInt := Int32.le_iff_toInt_le
theorem fa_eq (a b : Int32) : a = b ↔ a.toInt = b.toInt := Int32.toInt_inj.symm
theorem fa_lt64 (a b : Int64) : a < b ↔ a.toInt < b.toInt := Int64.lt_iff_toInt_lt
theorem fa_le64 (a b : Int64) : a ≤ b ↔ a.toInt ≤ b.toInt := Int64.le_iff_toInt_le
theorem fa_eq64 (a b : Int64) : a = b ↔ a.toInt = b.toInt := Int64.toInt_inj.symm
/-- a comparison of two ints taken as longs -/
theorem fa_wide_lt (a b : Int32) : a.toInt64 < b.toInt64 ↔ a < b := by rw [fa_lt64, fa_lt, Int32.toInt_toInt64, Int32.toInt_toInt64]
theorem fa_wide_le (a b : Int32) : a.toInt64 ≤ b.toInt64 ↔ a ≤ b := by rw [fa_le64, fa_le, Int32.toInt_toInt64, Int32.toInt_toInt64]
theorem fa_wide_eq (a b : Int32) : a.toInt64 = b.toInt64 ↔ a = b := by rw [fa_eq64, fa_eq, Int32.toInt_toInt64, Int32.toInt_toInt64]
/-- one strict comparison gives all the others -/
theorem fa_of_lt {a b : Int32} (h : a < b) : a ≤ b ∧ ¬ b ≤ a ∧ ¬ b < a ∧ a ≠ b ∧ b ≠ a := by
  rw [fa_lt] at h
  refine ⟨?_, ?_, ?_, ?_, ?_⟩
  · rw [fa_le]; omega
  · rw [fa_le]; omega
  · rw [fa_lt]; omega
  · intro e; rw [fa_eq] at e; omega
  · intro e; rw [fa_eq] at e; omega
theorem fa_of_nlt {a b : Int32} (h : ¬ a < b) : b ≤ a := by
  rw [fa_lt] at h
  rw [fa_le]
  omega
theorem fa_of_nle {a b : Int32} (h : ¬ a ≤ b) : b < a := by
  rw [fa_le] at h
  rw [fa_lt]
  omega
theorem fa_le_ne {a b : Int32} (h : a ≤ b) (h2 : a ≠ b) : a < b := by
  rw [fa_le] at h
  rw [fa_lt]
  have h3 : a.toInt ≠ b.toInt := fun e => h2 ((fa_eq a b).mpr e)
  omega
theorem fa_three (a b : Int32) : a < b ∨ a = b ∨ b < a := by
  rw [fa_lt, fa_lt, fa_eq]
  omega
theorem fa_trans {a b c : Int32} (h : a < b) (h2 : b ≤ c) : a < c := by
  rw [fa_lt] at *
  rw [fa_le] at h2
  omega
/-! ===== small literals as numbers ===== -/
theorem fa_lit (n : Nat) : (OfNat.ofNat n : Int32) = nI n := rfl
theorem fa_litL (n : Nat) : (OfNat.ofNat n : Int64) = lN n := rfl
/-! ===== bits of a number: 'or', masks, one bit ===== -/
theorem fa_and (a b : Nat) : nI a &&& nI b = nI (a &&& b) := by
  apply Int32.toBitVec_inj.1
  show BitVec.ofNat 32 a &&& BitVec.ofNat 32 b = BitVec.ofNat 32 (a &&& b)
  apply BitVec.eq_of_getLsbD_eq
  intro i hi
  simp [hi]
theorem fa_or (a b : Nat) : nI a ||| nI b = nI (a ||| b) := by
  apply Int32.toBitVec_inj.1
  show BitVec.ofNat 32 a ||| BitVec.ofNat 32 b = BitVec.ofNat 32 (a ||| b)
  apply BitVec.eq_of_getLsbD_eq
  intro i hi
  simp [hi]
/-- a remainder by a power of two, as a mask -/
theorem fa_mask (n k : Nat) : nI n &&& nI (2 ^ k - 1) = nI (n % 2 ^ k) := by rw [fa_and, Nat.and_two_pow_sub_one_eq_mod]
/-- 'or' of a high part and a low one that don't meet is their sum -/
theorem fa_or_sum {a k : Nat} (b : Nat) (h : a < 2 ^ k) : nI (2 ^ k * b) ||| nI a = nI (2 ^ k * b + a) := by rw [fa_or, Nat.two_pow_add_eq_or_of_lt h]
/-- one bit, by 'and' with a power of two -/
theorem fa_bit {n j : Nat} (hj : j < 31) : nI n &&& nI (2 ^ j) = 0 ↔ n.testBit j = false := by
  have h2 : (2 : Nat) ^ j < 2 ^ 31 := Nat.pow_lt_pow_right (by decide) hj
  have hle : n &&& 2 ^ j ≤ 2 ^ j := Nat.and_le_right
  have e : n &&& 2 ^ j = 0 ↔ n.testBit j = false := by
    constructor
    · intro h
      have h1 : (n &&& 2 ^ j).testBit j = false := by rw [h]; simp
      rw [Nat.testBit_and] at h1
      first | simpa using h1 | simpa [Nat.testBit_two_pow_self] using h1 | simpa [Nat.testBit_two_pow] using h1
    · intro h
      apply Nat.eq_of_testBit_eq
      intro i
      rw [Nat.testBit_and]
      by_cases hi : j = i
      · subst hi; simp [h]
      · first | (simp [Nat.testBit_two_pow, hi]; done) | (simp [Nat.testBit_two_pow_of_ne hi]; done)
  rw [fa_and]
  constructor
  · intro h
    apply e.mp
    rcases Nat.eq_zero_or_pos (n &&& 2 ^ j) with z | z
    · exact z
    · exact absurd h (nI_ne0 z (Nat.lt_of_le_of_lt hle h2))
  · intro h
    rw [e.mpr h]; exact nI_0
/-- a remainder by a power of two of a number that isn't negative, as Java divides -/
theorem fa_rem {a k : Nat} (ha : a < 2 ^ 31) (hk : k < 31) : nI a - nI a / nI (2 ^ k) * nI (2 ^ k) = nI (a % 2 ^ k) := pk_rem ha (Nat.two_pow_pos k) (Nat.pow_lt_pow_right (by decide) hk)
/-! ===== cuts to a byte, a short ===== -/
theorem fa_byte_xor (x y : Int32) : (x ^^^ y).toInt8 = x.toInt8 ^^^ y.toInt8 := by
  apply Int8.toBitVec_inj.1
  apply BitVec.eq_of_getLsbD_eq
  intro i hi
  first | (simp [hi]; done) | (simp [hi, BitVec.getLsbD_setWidth, BitVec.getLsbD_signExtend]; done)
theorem fa_short_xor (x y : Int32) : (x ^^^ y).toInt16 = x.toInt16 ^^^ y.toInt16 := by
  apply Int16.toBitVec_inj.1
  apply BitVec.eq_of_getLsbD_eq
  intro i hi
  first | (simp [hi]; done) | (simp [hi, BitVec.getLsbD_setWidth, BitVec.getLsbD_signExtend]; done)
/-- the cut to a byte sees the low byte alone -/
theorem fa_byte_low (x : Int32) : (x &&& 255).toInt8 = x.toInt8 := by
  apply Int8.toBitVec_inj.1
  apply BitVec.eq_of_getLsbD_eq
  intro i hi
  have h2 : (255 : Int32).toBitVec.getLsbD i = true := by
    have : ∀ j : Fin 8, (255 : Int32).toBitVec.getLsbD j.val = true := by decide +kernel
    exact this ⟨i, hi⟩
  have h4 : (x &&& 255).toBitVec.getLsbD i = x.toBitVec.getLsbD i := by
    show (x.toBitVec &&& (255 : Int32).toBitVec).getLsbD i = _
    rw [BitVec.getLsbD_and, h2, Bool.and_true]
  have h3 : i < 32 := by omega
  first
    | (show (((x &&& 255).toBitVec).signExtend 8).getLsbD i = (x.toBitVec.signExtend 8).getLsbD i; rw [BitVec.getLsbD_signExtend, BitVec.getLsbD_signExtend, if_pos h3, if_pos h3, h4])
    | (show (((x &&& 255).toBitVec).setWidth 8).getLsbD i = (x.toBitVec.setWidth 8).getLsbD i; rw [BitVec.getLsbD_setWidth, BitVec.getLsbD_setWidth, h4])
    | (simp [hi, h3, h4]; done)
theorem fa_short_low (x : Int32) : (x &&& 65535).toInt16 = x.toInt16 := by
  apply Int16.toBitVec_inj.1
  apply BitVec.eq_of_getLsbD_eq
  intro i hi
  have h2 : (65535 : Int32).toBitVec.getLsbD i = true := by
    have : ∀ j : Fin 16, (65535 : Int32).toBitVec.getLsbD j.val = true := by decide +kernel
    exact this ⟨i, hi⟩
  have h4 : (x &&& 65535).toBitVec.getLsbD i = x.toBitVec.getLsbD i := by
    show (x.toBitVec &&& (65535 : Int32).toBitVec).getLsbD i = _
    rw [BitVec.getLsbD_and, h2, Bool.and_true]
  have h3 : i < 32 := by omega
  first
    | (show (((x &&& 65535).toBitVec).signExtend 16).getLsbD i = (x.toBitVec.signExtend 16).getLsbD i; rw [BitVec.getLsbD_signExtend, BitVec.getLsbD_signExtend, if_pos h3, if_pos h3, h4])
    | (show (((x &&& 65535).toBitVec).setWidth 16).getLsbD i = (x.toBitVec.setWidth 16).getLsbD i; rw [BitVec.getLsbD_setWidth, BitVec.getLsbD_setWidth, h4])
    | (simp [hi, h3, h4]; done)
/-- a small number is its own byte, its own short -/
theorem fa_byte_small {n : Nat} (h : n < 128) : (nI n).toInt8.toInt32 = nI n := by
  have : ∀ j : Fin 128, (nI j.val).toInt8.toInt32 = nI j.val := by decide +kernel
  exact this ⟨n, h⟩
/-! ===== absolute difference ===== -/
theorem fa_absdiff {a b : Nat} (ha : a < 2 ^ 31) (hb : b < 2 ^ 31) : (if nI a < nI b then nI b - nI a else nI a - nI b) = nI (if a < b then b - a else a - b) := by
  by_cases h : a < b
  · rw [if_pos (nI_lt h hb), if_pos h]
    exact pk_sub (Nat.le_of_lt h)
  · rw [if_neg (nI_nlt (Nat.le_of_not_lt h) ha), if_neg h]
    exact pk_sub (Nat.le_of_not_lt h)
/-! ===== an array behind i stores, a conditional store, a row copied ===== -/
/-- f where k < i, what stood there else -/
def fa_fill {α : Type} (f g : Nat → α) (i : Nat) : Nat → α := fun k => if k < i then f k else g k
theorem fa_fill_0 {α : Type} (f g : Nat → α) : fa_fill f g 0 = g := funext fun k => if_neg (Nat.not_lt_zero k)
theorem fa_fill_in {α : Type} {f g : Nat → α} {i k : Nat} (h : k < i) : fa_fill f g i k = f k := if_pos h
theorem fa_fill_out {α : Type} {f g : Nat → α} {i k : Nat} (h : i ≤ k) : fa_fill f g i k = g k := if_neg (Nat.not_lt.mpr h)
theorem fa_fill_succ (f g : Nat → Int32) (i : Nat) : upd (fa_fill f g i) i (f i) = fa_fill f g (i + 1) := by
  funext k
  by_cases e : k = i
  · subst e
    rw [pk_us]
    exact (if_pos (Nat.lt_succ_self k)).symm
  · rw [pk_un e]
    by_cases h : k < i
    · rw [fa_fill_in h, fa_fill_in (Nat.lt_succ_of_lt h)]
    · rw [fa_fill_out (Nat.le_of_not_lt h), fa_fill_out (by omega)]
/-- a store that changes nothing -/
theorem fa_upd_same {f : Nat → Int32} {i : Nat} {x : Int32} (h : f i = x) : upd f i x = f := by
  funext k
  by_cases e : k = i
  · subst e
    rw [pk_us, h]
  · rw [pk_un e]
/-- a store under a condition, told as one -/
theorem fa_upd_if (c : Prop) [Decidable c] (f : Nat → Int32) (i : Nat) (x : Int32) : (if c then upd f i x else f) = upd f i (if c then x else f i) := by
  by_cases h : c
  · rw [if_pos h, if_pos h]
  · rw [if_neg h, if_neg h, fa_upd_same rfl]
/-- two stores at one place, at two -/
theorem fa_upd_twice (f : Nat → Int32) (i : Nat) (x y : Int32) : upd (upd f i x) i y = upd f i y := by
  funext k
  by_cases e : k = i
  · subst e
    rw [pk_us, pk_us]
  · rw [pk_un e, pk_un e, pk_un e]
theorem fa_upd_swap (f : Nat → Int32) {i j : Nat} (h : i ≠ j) (x y : Int32) : upd (upd f i x) j y = upd (upd f j y) i x := by
  funext k
  by_cases e : k = i
  · subst e
    rw [pk_un h, pk_us, pk_us]
  · by_cases e2 : k = j
    · subst e2
      rw [pk_us, pk_un e, pk_us]
    · rw [pk_un e2, pk_un e, pk_un e, pk_un e2]
/-! ===== the first index with a property; a count ===== -/
/-- the first k < n with p k, n if there is none -/
def fa_first (p : Nat → Bool) : Nat → Nat
  | 0 => 0
  | n + 1 => if fa_first p n < n then fa_first p n else if p n then n else n + 1
theorem fa_first_le (p : Nat → Bool) : ∀ n, fa_first p n ≤ n
  | 0 => Nat.le_refl 0
  | n + 1 => by
    have ih := fa_first_le p n
    unfold fa_first
    split
    · omega
    · split
      · omega
      · omega
theorem fa_first_no (p : Nat → Bool) : ∀ n k, k < fa_first p n → p k = false
  | 0, k, h => absurd h (Nat.not_lt_zero k)
  | n + 1, k, h => by
    have ih := fa_first_no p n
    have hl := fa_first_le p n
    unfold fa_first at h
    split at h
    · exact ih k h
    · rename_i h1
      split at h
      · exact ih k (by omega)
      · rename_i h2
        by_cases e : k = n
        · subst e
          exact Bool.eq_false_iff.mpr h2
        · exact ih k (by omega)
theorem fa_first_yes (p : Nat → Bool) : ∀ n, fa_first p n < n → p (fa_first p n) = true
  | 0, h => absurd h (Nat.not_lt_zero _)
  | n + 1, h => by
    have ih := fa_first_yes p n
    have hl := fa_first_le p n
    unfold fa_first at h ⊢
    split at h
    · rename_i h1
      rw [if_pos h1]
      exact ih h1
    · rename_i h1
      rw [if_neg h1]
      split at h
      · rename_i h2
        rw [if_pos h2]
        exact h2
      · omega
/-- how many k < n have p k -/
def fa_cnt (p : Nat → Bool) : Nat → Nat
  | 0 => 0
  | n + 1 => fa_cnt p n + if p n then 1 else 0
theorem fa_cnt_le (p : Nat → Bool) : ∀ n, fa_cnt p n ≤ n
  | 0 => Nat.le_refl 0
  | n + 1 => by
    have ih := fa_cnt_le p n
    unfold fa_cnt
    split
    · omega
    · omega
theorem fa_cnt_yes {p : Nat → Bool} {n : Nat} (h : p n = true) : fa_cnt p (n + 1) = fa_cnt p n + 1 := by rw [fa_cnt, if_pos h]
theorem fa_cnt_no {p : Nat → Bool} {n : Nat} (h : p n = false) : fa_cnt p (n + 1) = fa_cnt p n := by rw [fa_cnt, if_neg (by rw [h]; decide)]; rfl
theorem fa_cnt_cong {p q : Nat → Bool} : ∀ {n : Nat}, (∀ k, k < n → p k = q k) → fa_cnt p n = fa_cnt q n
  | 0, _ => rfl
  | n + 1, h => by rw [fa_cnt, fa_cnt, fa_cnt_cong (fun k hk => h k (Nat.lt_succ_of_lt hk)), h n (Nat.lt_succ_self n)]
/-! ===== an answer carried into a post; a branch on a boolean answer ===== -/
theorem fa_post {α : Type} {P : α → Prop} {x y : α} (h : x = y) (hp : P y) : P x := h ▸ hp
theorem fa_post2 {α β : Type} {P : α → β → Prop} {x y : α} {u v : β} (h : x = y) (h2 : u = v) (hp : P y v) : P x u := h ▸ h2 ▸ hp
theorem fa_bool {r : Int32} {b : Bool} (h : r = if b then 1 else 0) : (r = 0 ↔ b = false) ∧ (¬ r = 0 ↔ b = true) := by
  subst h
  cases b
  · exact ⟨⟨fun _ => rfl, fun _ => rfl⟩, ⟨fun h => absurd rfl h, fun h => absurd h (by decide)⟩⟩
  · exact ⟨⟨fun h => absurd h (by decide), fun h => absurd h (by decide)⟩, ⟨fun _ => rfl, fun _ => by decide⟩⟩
/-- a boolean's narrowing changes nothing -/
theorem fa_bool_and {r : Int32} (h : r = 0 ∨ r = 1) : r &&& 1 = r := by
  rcases h with rfl | rfl
  · decide
  · decide
theorem fa_bool_prop {c : Prop} [Decidable c] {r : Int32} (h : r = if c then 1 else 0) : (r = 0 ↔ ¬ c) ∧ (¬ r = 0 ↔ c) := by
  subst h
  by_cases hc : c
  · rw [if_pos hc]
    exact ⟨⟨fun h => absurd h (by decide), fun h => absurd hc h⟩, ⟨fun _ => hc, fun _ => by decide⟩⟩
  · rw [if_neg hc]
    exact ⟨⟨fun _ => hc, fun _ => rfl⟩, ⟨fun h => absurd rfl h, fun h => absurd h hc⟩⟩
/-! rows on bits, shifts and unsigned numbers, to paste: each family out of a closed proof of our own, whole with what it rests on; each by itself clean at Lean in its own claim (generation 39, form 5). Take a family whole -/
/-! ===== Int32 by its bits: bt x i ===== -/
def bt (x : Int32) (i : Nat) : Bool := x.toBitVec.getLsbD i
theorem b_ext {x y : Int32} (h : ∀ i, i < 32 → bt x i = bt y i) : x = y := Int32.toBitVec_inj.mp (BitVec.eq_of_getLsbD_eq (fun i hi => h i hi))
theorem b_or (x y : Int32) (i : Nat) : bt (x ||| y) i = (bt x i || bt y i) := by unfold bt; rw [Int32.toBitVec_or, BitVec.getLsbD_or]
theorem b_and (x y : Int32) (i : Nat) : bt (x &&& y) i = (bt x i && bt y i) := by unfold bt; rw [Int32.toBitVec_and, BitVec.getLsbD_and]
theorem b_xor (x y : Int32) (i : Nat) : bt (x ^^^ y) i = (bt x i ^^ bt y i) := by unfold bt; rw [Int32.toBitVec_xor, BitVec.getLsbD_xor]
theorem b_big {x : Int32} {i : Nat} (h : 32 ≤ i) : bt x i = false := BitVec.getLsbD_of_ge _ _ h
theorem b_255 (i : Nat) : bt 255 i = decide (i < 8) := by
  rcases Nat.lt_or_ge i 32 with h | h
  · exact (by decide +kernel : ∀ i, i < 32 → bt 255 i = decide (i < 8)) i h
  · rw [b_big h, decide_eq_false (by omega)]
theorem b_65535 (i : Nat) : bt 65535 i = decide (i < 16) := by
  rcases Nat.lt_or_ge i 32 with h | h
  · exact (by decide +kernel : ∀ i, i < 32 → bt 65535 i = decide (i < 16)) i h
  · rw [b_big h, decide_eq_false (by omega)]
theorem b_m1 : ∀ i, i < 32 → bt (-1) i = true := by decide +kernel
theorem b_0 (i : Nat) : bt 0 i = false := BitVec.getLsbD_zero
theorem s_l : ∀ n, n < 32 → ((nI n &&& 31).toBitVec.smod 32).toNat = n := by decide +kernel
theorem s_u : ∀ n, n < 32 → (((nI n).toUInt32 &&& Int32.toUInt32 31).toBitVec % 32).toNat = n := by decide +kernel
theorem b_shl (n : Nat) (hn : n < 32) (x : Int32) {i : Nat} (hi : i < 32) : bt (x <<< (nI n &&& 31)) i = (decide (n ≤ i) && bt x (i - n)) := by
  unfold bt
  rw [Int32.toBitVec_shiftLeft]
  show (x.toBitVec <<< ((nI n &&& 31).toBitVec.smod 32).toNat).getLsbD i = _
  rw [s_l n hn, BitVec.getLsbD_shiftLeft]
  rcases Nat.lt_or_ge i n with h | h
  · simp [h, Nat.not_le.mpr h]
  · simp [hi, h, Nat.not_lt.mpr h]
theorem b_ushr (n : Nat) (hn : n < 32) (x : Int32) (i : Nat) : bt ((x.toUInt32 >>> ((nI n).toUInt32 &&& Int32.toUInt32 31)).toInt32) i = bt x (n + i) := by
  show (x.toUInt32 >>> ((nI n).toUInt32 &&& Int32.toUInt32 31)).toBitVec.getLsbD i = x.toUInt32.toBitVec.getLsbD (n + i)
  rw [UInt32.toBitVec_shiftRight]
  show (x.toUInt32.toBitVec >>> (((nI n).toUInt32 &&& Int32.toUInt32 31).toBitVec % 32).toNat).getLsbD i = _
  rw [s_u n hn, BitVec.getLsbD_ushiftRight]
theorem b_sshr (n : Nat) (hn : n < 32) (x : Int32) {i : Nat} (hi : i < 32) : bt (x >>> (nI n &&& 31)) i = if n + i < 32 then bt x (n + i) else bt x 31 := by
  unfold bt
  rw [Int32.toBitVec_shiftRight]
  show (x.toBitVec.sshiftRight ((nI n &&& 31).toBitVec.smod 32).toNat).getLsbD i = _
  rw [s_l n hn, BitVec.getLsbD_sshiftRight, BitVec.msb_eq_getLsbD_last]
  simp [hi]
theorem b_shl8 (x : Int32) {i : Nat} (hi : i < 32) : bt (x <<< ((8 : Int32) &&& 31)) i = (decide (8 ≤ i) && bt x (i - 8)) := b_shl 8 (by omega) x hi
theorem b_shl16 (x : Int32) {i : Nat} (hi : i < 32) : bt (x <<< ((16 : Int32) &&& 31)) i = (decide (16 ≤ i) && bt x (i - 16)) := b_shl 16 (by omega) x hi
theorem b_shl24 (x : Int32) {i : Nat} (hi : i < 32) : bt (x <<< ((24 : Int32) &&& 31)) i = (decide (24 ≤ i) && bt x (i - 24)) := b_shl 24 (by omega) x hi
theorem b_sshr8 (x : Int32) {i : Nat} (hi : i < 32) : bt (x >>> ((8 : Int32) &&& 31)) i = if 8 + i < 32 then bt x (8 + i) else bt x 31 := b_sshr 8 (by omega) x hi
/-! ===== nI under and, xor, >>>, one bit, 65535 ===== -/
theorem nx_and (a b : Nat) : nI a &&& nI b = nI (a &&& b) := by
  apply Int32.toBitVec_inj.1
  show BitVec.ofNat 32 a &&& BitVec.ofNat 32 b = BitVec.ofNat 32 (a &&& b)
  apply BitVec.eq_of_getLsbD_eq
  intro i hi
  simp [hi]
theorem nx_xor (a b : Nat) : nI a ^^^ nI b = nI (a ^^^ b) := by
  apply Int32.toBitVec_inj.1
  show BitVec.ofNat 32 a ^^^ BitVec.ofNat 32 b = BitVec.ofNat 32 (a ^^^ b)
  apply BitVec.eq_of_getLsbD_eq
  intro i hi
  simp [hi]
theorem nx_cnt : ∀ j : Fin 32, (UInt32.ofNat j.val &&& Int32.toUInt32 31).toNat % 32 = j.val := by decide +kernel
theorem nx_ush {k j : Nat} (hk : k < 65536) (hj : j < 32) : ((nI k).toUInt32 >>> ((nI j).toUInt32 &&& Int32.toUInt32 31)).toInt32 = nI (k >>> j) := by
  have hs : k >>> j ≤ k := by
    rw [Nat.shiftRight_eq_div_pow]
    exact Nat.div_le_self _ _
  have e2 : UInt32.ofNat k >>> (UInt32.ofNat j &&& Int32.toUInt32 31) = UInt32.ofNat (k >>> j) := by
    apply UInt32.toNat_inj.1
    have h1 : (UInt32.ofNat k).toNat = k := Nat.mod_eq_of_lt (by omega)
    have h2 : (UInt32.ofNat (k >>> j)).toNat = k >>> j := Nat.mod_eq_of_lt (by omega)
    rw [UInt32.toNat_shiftRight, nx_cnt ⟨j, hj⟩, h1, h2]
  show (UInt32.ofNat k >>> (UInt32.ofNat j &&& Int32.toUInt32 31)).toInt32 = _
  rw [e2]
  rfl
theorem nx_bit {k j : Nat} (hk : k < 65536) (hj : j < 16) : (((nI k).toUInt32 >>> ((nI j).toUInt32 &&& Int32.toUInt32 31)).toInt32 &&& 1) = 0 ↔ k.testBit j = false := by
  rw [nx_ush hk (by omega)]
  show nI (k >>> j) &&& nI 1 = 0 ↔ _
  rw [nx_and, Nat.and_one_is_mod, ← nI_0, nI_eq (by omega) (by omega), Nat.testBit_eq_decide_div_mod_eq, Nat.shiftRight_eq_div_pow, decide_eq_false_iff_not]
  generalize k / 2 ^ j = z
  omega
theorem nx_mod (k : Nat) : nI k &&& 65535 = nI (k % 65536) := by
  show nI k &&& nI 65535 = _
  rw [nx_and, show (65535 : Nat) = 2 ^ 16 - 1 from rfl, Nat.and_two_pow_sub_one_eq_mod]
theorem nx_m16 {k : Nat} (h : k < 65536) : nI k &&& 65535 = nI k := by rw [nx_mod, Nat.mod_eq_of_lt h]
theorem nx_mask (x : Int32) : ∃ k, k < 65536 ∧ x &&& 65535 = nI k := by
  have e : x = nI x.toBitVec.toNat := by
    apply Int32.toBitVec_inj.1
    show x.toBitVec = BitVec.ofNat 32 x.toBitVec.toNat
    simp
  refine ⟨x.toBitVec.toNat % 65536, Nat.mod_lt _ (by omega), ?_⟩
  rw [← nx_mod, ← e]
/-! ===== Int32 as a set of bits: test, set ===== -/
def nf_M (m : Int32) : Nat := 4294967296 - m.toBitVec.toNat
theorem nf_sh : ∀ l, l < 32 → ((1 : Int32) <<< (nI l &&& 31)).toBitVec = BitVec.twoPow 32 l := by decide +kernel
theorem nf_sl : ∀ l, l < 32 → (((nI l).toUInt32 &&& Int32.toUInt32 31).toBitVec % 32).toNat = l := by decide +kernel
theorem nf_tp : ∀ l, l < 32 → BitVec.twoPow 32 l ≠ 0#32 := by decide +kernel
theorem nf_bit (m : Int32) (l : Nat) (hl : l < 32) : ((m.toUInt32 >>> ((nI l).toUInt32 &&& Int32.toUInt32 31)).toInt32 &&& 1) = 0 ↔ (m &&& ((1 : Int32) <<< (nI l &&& 31))) = 0 := by
  have e : ((m.toUInt32 >>> ((nI l).toUInt32 &&& Int32.toUInt32 31)).toInt32).toBitVec = m.toBitVec >>> l := by
    show m.toBitVec >>> (((nI l).toUInt32 &&& Int32.toUInt32 31).toBitVec % 32) = m.toBitVec >>> l
    rw [BitVec.ushiftRight_eq', nf_sl l hl]
  rw [← Int32.toBitVec_inj, ← Int32.toBitVec_inj, Int32.toBitVec_and, Int32.toBitVec_and, nf_sh l hl, e, BitVec.and_twoPow]
  show (m.toBitVec >>> l &&& 1#32) = 0#32 ↔ _ = 0#32
  rw [BitVec.and_one_eq_setWidth_ofBool_getLsbD, BitVec.getLsbD_ushiftRight, Nat.add_zero]
  cases hb : m.toBitVec.getLsbD l
  · exact ⟨fun _ => by simp, fun _ => by decide⟩
  · exact ⟨fun z => absurd z (by decide), fun z => absurd ((if_pos rfl).symm.trans z) (nf_tp l hl)⟩
theorem nf_gr (m k : Int32) (h : m &&& k = 0) (hk : k ≠ 0) : nf_M (m ||| k) < nf_M m := by
  have hm := m.toBitVec.isLt
  have hm' := (m ||| k).toBitVec.isLt
  have h1 : m.toBitVec.toNat ≤ (m ||| k).toBitVec.toNat := by
    rw [Int32.toBitVec_or, BitVec.toNat_or]
    exact Nat.left_le_or
  have h2 : m.toBitVec.toNat ≠ (m ||| k).toBitVec.toNat := by
    intro e
    have e2 : m = m ||| k := Int32.toBitVec_inj.mp (BitVec.eq_of_toNat_eq e)
    apply hk
    apply Int32.toBitVec_inj.mp
    show k.toBitVec = 0#32
    apply BitVec.eq_of_getLsbD_eq
    intro i hi
    have a : m.toBitVec.getLsbD i = (m.toBitVec.getLsbD i || k.toBitVec.getLsbD i) := by rw [← BitVec.getLsbD_or, ← Int32.toBitVec_or, ← e2]
    have b : (m.toBitVec.getLsbD i && k.toBitVec.getLsbD i) = false := by
      rw [← BitVec.getLsbD_and, ← Int32.toBitVec_and, h]
      exact BitVec.getLsbD_zero
    rw [BitVec.getLsbD_zero]
    revert a b
    cases m.toBitVec.getLsbD i <;> cases k.toBitVec.getLsbD i <;> simp
  unfold nf_M
  omega
/-! ===== a byte read unsigned ===== -/
theorem bp_b (x : Int32) : x.toInt8.toInt32 &&& 255 = x &&& 255 := by
  apply Int32.toBitVec_inj.mp
  rw [Int32.toBitVec_and, Int32.toBitVec_and, Int8.toBitVec_toInt32, Int32.toBitVec_toInt8]
  apply BitVec.eq_of_getLsbD_eq
  intro i hi
  rw [BitVec.getLsbD_and, BitVec.getLsbD_and]
  have hm : ∀ i < 32, 8 ≤ i → (255 : Int32).toBitVec.getLsbD i = false := by decide
  rcases Nat.lt_or_ge i 8 with z | z
  · rw [BitVec.getLsbD_signExtend, BitVec.getLsbD_signExtend, if_pos z, if_pos hi]
    simp only [z, hi, decide_true, Bool.true_and]
  · rw [hm i hi z]; simp
/-! ===== the char cast and 65535 ===== -/
/-! ===== Int64 as a set of bits: test, set, clear ===== -/
theorem ts_nf {x : Bool} (h : ¬ x = false) : x = true := by cases x <;> first | rfl | exact absurd rfl h
theorem ts_nt {x : Bool} (h : ¬ x = true) : x = false := by cases x <;> first | rfl | exact absurd rfl h
theorem ts_bit {w : Int64} {s : UInt64} {j : Nat} (hj : j < 64) (hs : s.toNat = j) : ((w.toUInt64 >>> s).toInt64 &&& 1) = 0 ↔ w.toBitVec.getLsbD j = false := by
  have e : (w.toUInt64 >>> s).toInt64.toBitVec = w.toBitVec >>> j := by
    apply BitVec.eq_of_toNat_eq
    show (w.toUInt64 >>> s).toNat = _
    rw [UInt64.toNat_shiftRight, hs, Nat.mod_eq_of_lt hj, BitVec.toNat_ushiftRight]
    rfl
  rw [← Int64.toBitVec_inj, Int64.toBitVec_and, e]
  show w.toBitVec >>> j &&& 1#64 = 0#64 ↔ _
  constructor
  · intro h
    have t := congrArg (fun x => x.getLsbD 0) h
    simpa using t
  · intro h
    apply BitVec.eq_of_getLsbD_eq
    intro i hi
    cases i with
    | zero => simp [h]
    | succ i => simp
theorem ts_or {w m : Int64} {j : Nat} (hj : j < 64) (hm : m.toBitVec = BitVec.twoPow 64 j) : (w ||| m) = w ↔ w.toBitVec.getLsbD j = true := by
  rw [← Int64.toBitVec_inj, Int64.toBitVec_or, hm]
  constructor
  · intro h
    have t := congrArg (fun x => x.getLsbD j) h
    simp only [BitVec.getLsbD_or, BitVec.getLsbD_twoPow] at t
    simpa [hj] using t.symm
  · intro h
    apply BitVec.eq_of_getLsbD_eq
    intro i hi
    rw [BitVec.getLsbD_or, BitVec.getLsbD_twoPow]
    by_cases e : j = i
    · subst e; rw [h, Bool.true_or]
    · simp [e]
theorem ts_and {w m : Int64} {j : Nat} (hj : j < 64) (hm : m.toBitVec = BitVec.twoPow 64 j) : (w &&& (m ^^^ (-1))) = w ↔ w.toBitVec.getLsbD j = false := by
  have ha : (-1 : Int64).toBitVec = BitVec.allOnes 64 := by decide
  rw [← Int64.toBitVec_inj, Int64.toBitVec_and, Int64.toBitVec_xor, hm, ha]
  constructor
  · intro h
    have t := congrArg (fun x => x.getLsbD j) h
    simp only [BitVec.getLsbD_and, BitVec.getLsbD_xor, BitVec.getLsbD_twoPow, BitVec.getLsbD_allOnes] at t
    simpa [hj] using t.symm
  · intro h
    apply BitVec.eq_of_getLsbD_eq
    intro i hi
    rw [BitVec.getLsbD_and, BitVec.getLsbD_xor, BitVec.getLsbD_twoPow, BitVec.getLsbD_allOnes]
    by_cases e : j = i
    · subst e; rw [h, Bool.false_and]
    · simp [e, hi]
/-! ===== lN n to 2^64: shifts, and, or, masks, one bit ===== -/
theorem wb_tb (n : Nat) : (lN n).toBitVec = BitVec.ofNat 64 n := rfl
theorem wb_inj {a b : Int64} (h : a.toBitVec = b.toBitVec) : a = b := Int64.toBitVec_inj.mp h
theorem wb_tn {n : Nat} (h : n < 2 ^ 64) : (lN n).toBitVec.toNat = n := by rw [wb_tb, BitVec.toNat_ofNat, Nat.mod_eq_of_lt h]
theorem wb_of (x : Int64) : ∃ n, n < 2 ^ 64 ∧ x = lN n := ⟨x.toBitVec.toNat, x.toBitVec.isLt, wb_inj (by rw [wb_tb]; simp)⟩
theorem wb_of32 (x : Int32) : ∃ n, n < 2 ^ 32 ∧ x = nI n := ⟨x.toBitVec.toNat, x.toBitVec.isLt, Int32.toBitVec_inj.mp (by show _ = BitVec.ofNat 32 _; simp)⟩
theorem wb_c : ∀ k, k < 64 → ((nI k).toInt64 &&& 63) = lN k := by decide +kernel
theorem wb_cu : ∀ k, k < 64 → ((nI k).toInt64.toUInt64 &&& Int64.toUInt64 63) = UInt64.ofNat k := by decide +kernel
theorem wb_sm : ∀ k, k < 64 → (BitVec.ofNat 64 k).smod 64 = BitVec.ofNat 64 k := by decide +kernel
theorem wb_pw {a b : Nat} (h : a ≤ b) : 2 ^ b = 2 ^ a * 2 ^ (b - a) := by rw [← Nat.pow_add]; congr 1; omega
theorem wb_lt2 {a b : Nat} (h : a < b) : 2 ^ a < 2 ^ b := Nat.pow_lt_pow_right (by decide) h
theorem wb_mod (n : Nat) : lN n = lN (n % 2 ^ 64) := wb_inj (by rw [wb_tb, wb_tb]; apply BitVec.eq_of_toNat_eq; rw [BitVec.toNat_ofNat, BitVec.toNat_ofNat, Nat.mod_mod])
theorem wb_shr {n k : Nat} (hn : n < 2 ^ 64) (hk : k < 64) : ((lN n).toUInt64 >>> ((nI k).toInt64.toUInt64 &&& Int64.toUInt64 63)).toInt64 = lN (n / 2 ^ k) := by
  rw [wb_cu k hk]
  apply wb_inj
  apply BitVec.eq_of_toNat_eq
  show ((lN n).toUInt64 >>> UInt64.ofNat k).toNat = (BitVec.ofNat 64 _).toNat
  have h1 : (UInt64.ofNat k).toNat = k := by
    show (BitVec.ofNat 64 k).toNat = k
    rw [BitVec.toNat_ofNat, Nat.mod_eq_of_lt (by omega)]
  have h2 : (lN n).toUInt64.toNat = n := wb_tn hn
  rw [UInt64.toNat_shiftRight, h1, h2, Nat.mod_eq_of_lt hk, Nat.shiftRight_eq_div_pow, BitVec.toNat_ofNat, Nat.mod_eq_of_lt (Nat.lt_of_le_of_lt (Nat.div_le_self _ _) hn)]
theorem wb_shl (n : Nat) {k : Nat} (hk : k < 64) : lN n <<< ((nI k).toInt64 &&& 63) = lN (n * 2 ^ k) := by
  rw [wb_c k hk]
  apply wb_inj
  rw [Int64.toBitVec_shiftLeft, wb_tb, wb_tb, wb_tb, wb_sm k hk]
  apply BitVec.eq_of_toNat_eq
  rw [BitVec.shiftLeft_eq', BitVec.toNat_shiftLeft, BitVec.toNat_ofNat, BitVec.toNat_ofNat, BitVec.toNat_ofNat, Nat.mod_eq_of_lt (show k < 2 ^ 64 by omega), Nat.shiftLeft_eq, Nat.mul_mod, Nat.mod_mod, ← Nat.mul_mod]
theorem wb_and {a b : Nat} (ha : a < 2 ^ 64) (hb : b < 2 ^ 64) : lN a &&& lN b = lN (a &&& b) := by
  apply wb_inj
  rw [Int64.toBitVec_and, wb_tb, wb_tb, wb_tb]
  apply BitVec.eq_of_toNat_eq
  rw [BitVec.toNat_and, BitVec.toNat_ofNat, BitVec.toNat_ofNat, BitVec.toNat_ofNat, Nat.mod_eq_of_lt ha, Nat.mod_eq_of_lt hb, Nat.mod_eq_of_lt (Nat.and_lt_two_pow _ hb)]
theorem wb_or {a b : Nat} (ha : a < 2 ^ 64) (hb : b < 2 ^ 64) : lN a ||| lN b = lN (a ||| b) := by
  apply wb_inj
  rw [Int64.toBitVec_or, wb_tb, wb_tb, wb_tb]
  apply BitVec.eq_of_toNat_eq
  rw [BitVec.toNat_or, BitVec.toNat_ofNat, BitVec.toNat_ofNat, BitVec.toNat_ofNat, Nat.mod_eq_of_lt ha, Nat.mod_eq_of_lt hb, Nat.mod_eq_of_lt (Nat.or_lt_two_pow ha hb)]
theorem wb_mask {n k : Nat} (hn : n < 2 ^ 64) (hk : k < 64) : lN n &&& lN (2 ^ k - 1) = lN (n % 2 ^ k) := by
  rw [wb_and hn (by have := wb_lt2 hk; omega), Nat.and_two_pow_sub_one_eq_mod]
theorem wb_a1 {n : Nat} (hn : n < 2 ^ 64) : lN n &&& 1 = lN (n % 2) := wb_mask (k := 1) hn (by decide)
theorem wb_bit {n k : Nat} (hn : n < 2 ^ 64) (hk : k < 64) : ((lN n).toUInt64 >>> ((nI k).toInt64.toUInt64 &&& Int64.toUInt64 63)).toInt64 &&& 1 = lN (n / 2 ^ k % 2) := by
  rw [wb_shr hn hk, wb_a1 (Nat.lt_of_le_of_lt (Nat.div_le_self _ _) hn)]
theorem wb_xor {q k : Nat} (hk : k < 63) (h : 2 ^ k ≤ q) (h2 : q < 2 ^ (k + 1)) : lN q ^^^ lN (2 ^ k) = lN (q - 2 ^ k) := by
  obtain ⟨r, rfl⟩ : ∃ r, q = 2 ^ k + r := ⟨q - 2 ^ k, by omega⟩
  have hr : r < 2 ^ k := by rw [Nat.pow_succ] at h2; omega
  have hx : (2 ^ k + r) ^^^ 2 ^ k = r := by
    apply Nat.eq_of_testBit_eq
    intro i
    rw [Nat.testBit_xor, Nat.testBit_two_pow]
    rcases Nat.lt_trichotomy i k with h | h | h
    · rw [Nat.testBit_two_pow_add_gt h]
      simp [show ¬ k = i by omega]
    · subst h
      rw [Nat.testBit_two_pow_add_eq]
      simp
    · have a1 : 2 ^ (k + 1) ≤ 2 ^ i := Nat.pow_le_pow_right (by decide) h
      rw [Nat.testBit_lt_two_pow (show 2 ^ k + r < 2 ^ i by omega), Nat.testBit_lt_two_pow (show r < 2 ^ i by omega)]
      simp [show ¬ k = i by omega]
  have b1 := wb_lt2 (show k + 1 < 64 by omega)
  have b2 := wb_lt2 (show k < 64 by omega)
  apply wb_inj
  rw [Int64.toBitVec_xor, wb_tb, wb_tb, wb_tb]
  apply BitVec.eq_of_toNat_eq
  rw [BitVec.toNat_xor, BitVec.toNat_ofNat, BitVec.toNat_ofNat, BitVec.toNat_ofNat, Nat.mod_eq_of_lt (by omega : 2 ^ k + r < 2 ^ 64), Nat.mod_eq_of_lt b2, hx, Nat.add_sub_cancel_left, Nat.mod_eq_of_lt (by omega)]
/-! ===== lN: masks, 'or' of parts that don't overlap is a sum ===== -/
theorem u_tn {n : Nat} (h : n < 2 ^ 64) : (UInt64.ofNat n).toNat = n := Nat.mod_eq_of_lt h
theorem g_and {a b c : Nat} (ha : a < 2 ^ 64) (hb : b < 2 ^ 64) (hc : a &&& b = c) : lN a &&& lN b = lN c := by
  subst hc
  have h : UInt64.ofNat a &&& UInt64.ofNat b = UInt64.ofNat (a &&& b) := UInt64.toNat_inj.mp (by rw [UInt64.toNat_and, u_tn ha, u_tn hb, u_tn (Nat.and_lt_two_pow a hb)])
  have h2 := congrArg UInt64.toInt64 h
  exact h2
theorem g_and1 {a : Nat} (ha : a < 2 ^ 64) : lN a &&& 1 = lN (a % 2) := g_and (b := 1) ha (by decide) (Nat.and_two_pow_sub_one_eq_mod a 1)
theorem g_mask {a s p : Nat} (hp : 2 ^ s = p) (hs : s < 64) (ha : a < 2 ^ 64) : lN a &&& lN (p - 1) = lN (a % p) := by
  subst hp
  have := Nat.pow_lt_pow_right (show 1 < 2 by decide) hs
  exact g_and ha (by omega) (Nat.and_two_pow_sub_one_eq_mod a s)
theorem g_or {k p a b : Nat} (hp : 2 ^ k = p) (ha : a < p) (h : b * p + a < 2 ^ 64) : lN (b * p) ||| lN a = lN (b * p + a) := by
  subst hp
  have h1 : b * 2 ^ k ||| a = b * 2 ^ k + a := by rw [← Nat.shiftLeft_eq, Nat.shiftLeft_add_eq_or_of_lt ha]
  have h3 : UInt64.ofNat (b * 2 ^ k) ||| UInt64.ofNat a = UInt64.ofNat (b * 2 ^ k + a) := UInt64.toNat_inj.mp (by rw [UInt64.toNat_or, u_tn (by omega), u_tn (by omega), u_tn h, h1])
  have h2 := congrArg UInt64.toInt64 h3
  exact h2
theorem g_or' {k p a b : Nat} (hp : 2 ^ k = p) (ha : a < p) (h : a + b * p < 2 ^ 64) : lN a ||| lN (b * p) = lN (a + b * p) := by
  rw [Int64.or_comm, g_or hp ha (by omega), Nat.add_comm]
theorem g_ushr {a k p : Nat} {y : UInt64} (hy : y = UInt64.ofNat k) (hk : k < 64) (hp : 2 ^ k = p) (ha : a < 2 ^ 64) : ((lN a).toUInt64 >>> y).toInt64 = lN (a / p) := by
  subst hy hp
  have h : UInt64.ofNat a >>> UInt64.ofNat k = UInt64.ofNat (a / 2 ^ k) := UInt64.toNat_inj.mp (by rw [UInt64.toNat_shiftRight, u_tn ha, u_tn (by omega), u_tn (Nat.lt_of_le_of_lt (Nat.div_le_self _ _) ha), Nat.mod_eq_of_lt hk, Nat.shiftRight_eq_div_pow])
  have h2 := congrArg UInt64.toInt64 h
  exact h2
theorem g_shl {a k p : Nat} {y : Int64} (hy : y.toBitVec.smod 64 = BitVec.ofNat 64 k) (hk : k < 64) (hp : 2 ^ k = p) (ha : a < 2 ^ 64) : lN a <<< y = lN (a * p) := by
  subst hp
  apply Int64.toBitVec_inj.mp
  rw [Int64.toBitVec_shiftLeft, hy]
  apply BitVec.eq_of_toNat_eq
  have hb : (lN a).toBitVec.toNat = a := Nat.mod_eq_of_lt ha
  have hk' : (BitVec.ofNat 64 k).toNat = k := Nat.mod_eq_of_lt (by omega)
  have h : ((lN a).toBitVec <<< BitVec.ofNat 64 k).toNat = (a * 2 ^ k) % 2 ^ 64 := by simp only [BitVec.shiftLeft_eq', BitVec.toNat_shiftLeft, hb, hk', Nat.shiftLeft_eq]
  exact h
/-! ===== lN to 2^62 under >> and >>> ===== -/
theorem pf_lI {a : Nat} (h : a < 2 ^ 63) : (lN a).toInt = (a : Int) := lg_ofNat_toInt h
theorem pf_shr {a d : Nat} {D : Int64} (hD : (D.toBitVec.smod 64).toNat = d) (h : a < 2 ^ 62) : lN a >>> D = lN (a / 2 ^ d) := by
  have hd : a / 2 ^ d ≤ a := Nat.div_le_self _ _
  apply Int64.toInt_inj.mp
  have e : (lN a >>> D).toInt = (lN a).toInt >>> d := by
    rw [← hD]
    exact BitVec.toInt_sshiftRight ..
  rw [e, Int.shiftRight_eq_div_pow, pf_lI (by omega), pf_lI (by omega)]
  rfl
theorem pf_ushr {a d : Nat} {D : UInt64} (hD : D.toNat % 64 = d) (h : a < 2 ^ 62) : ((lN a).toUInt64 >>> D).toInt64 = lN (a / 2 ^ d) := by
  have hd : a / 2 ^ d ≤ a := Nat.div_le_self _ _
  have e : (lN a).toUInt64 >>> D = UInt64.ofNat (a / 2 ^ d) := UInt64.toNat_inj.mp (by
    rw [UInt64.toNat_shiftRight, hD, Nat.shiftRight_eq_div_pow, UInt64.toNat_ofNat']
    show (UInt64.ofNat a).toNat / 2 ^ d = _
    rw [UInt64.toNat_ofNat', Nat.mod_eq_of_lt (by omega), Nat.mod_eq_of_lt (by omega)])
  rw [e]
  rfl
theorem pf_andw (x : Int64) : ∃ m, m < 2 ^ 32 ∧ x &&& 4294967295 = lN m := ⟨x.toBitVec.toNat % 2 ^ 32, Nat.mod_lt _ (by decide), Int64.toBitVec_inj.mp (BitVec.eq_of_toNat_eq (by
  show (x.toBitVec &&& 4294967295#64).toNat = (BitVec.ofNat 64 (x.toBitVec.toNat % 2 ^ 32)).toNat
  rw [BitVec.toNat_and, show (4294967295#64).toNat = 2 ^ 32 - 1 from by decide, Nat.and_two_pow_sub_one_eq_mod, BitVec.toNat_ofNat]
  omega))⟩
/-! ===== Int64 as an unsigned number: uN x ===== -/
def uN (x : Int64) : Nat := x.toUInt64.toNat
theorem uN_lt (x : Int64) : uN x < 18446744073709551616 := x.toUInt64.toNat_lt
theorem uN_inj {x y : Int64} (h : uN x = uN y) : x = y := congrArg UInt64.toInt64 (UInt64.toNat_inj.mp h)
theorem uN_add (x y : Int64) : uN (x + y) = (uN x + uN y) % 18446744073709551616 := by
  show (x.toUInt64 + y.toUInt64).toNat = _
  exact UInt64.toNat_add _ _
theorem uN_mul (x y : Int64) : uN (x * y) = (uN x * uN y) % 18446744073709551616 := by
  show (x.toUInt64 * y.toUInt64).toNat = _
  exact UInt64.toNat_mul _ _
theorem uN_shl (x : Int64) : uN (x <<< ((1 : Int32).toInt64 &&& 63)) = (2 * uN x) % 18446744073709551616 := by
  have h : (((1 : Int32).toInt64 &&& 63).toBitVec.smod 64).toNat = 1 := by decide
  show (x.toBitVec <<< (((1 : Int32).toInt64 &&& 63).toBitVec.smod 64).toNat).toNat = _
  rw [h, BitVec.toNat_shiftLeft, Nat.shiftLeft_eq, Nat.mul_comm]
  rfl
theorem uN_shr (x : Int64) (s : UInt64) : uN (x.toUInt64 >>> s).toInt64 = uN x / 2 ^ (s.toNat % 64) := by
  show (x.toUInt64 >>> s).toNat = _
  rw [UInt64.toNat_shiftRight, Nat.shiftRight_eq_div_pow]
  rfl
theorem uN_s32 (x : Int64) : uN (x.toUInt64 >>> ((32 : Int32).toInt64.toUInt64 &&& Int64.toUInt64 63)).toInt64 = uN x / 4294967296 := by
  have h : ((32 : Int32).toInt64.toUInt64 &&& Int64.toUInt64 63).toNat % 64 = 32 := by decide
  rw [uN_shr, h]
theorem uN_s63 (x : Int64) : uN (x.toUInt64 >>> ((63 : Int32).toInt64.toUInt64 &&& Int64.toUInt64 63)).toInt64 = uN x / 9223372036854775808 := by
  have h : ((63 : Int32).toInt64.toUInt64 &&& Int64.toUInt64 63).toNat % 64 = 63 := by decide
  rw [uN_shr, h]
theorem uN_lo (x : Int64) : uN (x &&& 4294967295) = uN x % 4294967296 := by
  show (x.toUInt64 &&& Int64.toUInt64 4294967295).toNat = _
  rw [UInt64.toNat_and]
  exact Nat.and_two_pow_sub_one_eq_mod _ 32
theorem uN_bit (x : Int64) : (x &&& 1) = 0 ↔ uN x % 2 = 0 := by
  have h : uN (x &&& 1) = uN x % 2 := by
    show (x.toUInt64 &&& Int64.toUInt64 1).toNat = _
    rw [UInt64.toNat_and]
    exact Nat.and_two_pow_sub_one_eq_mod _ 1
  rw [← h]
  exact ⟨fun z => by rw [z]; rfl, fun z => uN_inj (z.trans rfl)⟩
theorem uN_or {x y : Int64} (hy : uN y < 2) : uN ((x <<< ((1 : Int32).toInt64 &&& 63)) ||| y) = (2 * uN x) % 18446744073709551616 + uN y := by
  have h1 : uN ((x <<< ((1 : Int32).toInt64 &&& 63)) ||| y) = uN (x <<< ((1 : Int32).toInt64 &&& 63)) ||| uN y := UInt64.toNat_or _ _
  have h2 : (2 * uN x) % 18446744073709551616 = 2 ^ 1 * (uN x % 9223372036854775808) := by omega
  rw [h1, uN_shl, h2]
  exact (Nat.two_pow_add_eq_or_of_lt (i := 1) hy _).symm
theorem nat_xor {a : Nat} (h : a < 18446744073709551616) : a ^^^ 2 ^ 63 = (a + 9223372036854775808) % 18446744073709551616 := by
  have h1 : (a ^^^ 2 ^ 63) % 2 ^ 63 = a % 2 ^ 63 := by rw [Nat.xor_mod_two_pow, Nat.mod_self, Nat.xor_zero]
  have h2 : (a ^^^ 2 ^ 63) / 2 ^ 63 = (a / 2 ^ 63) ^^^ 1 := by rw [Nat.xor_div_two_pow, Nat.div_self (Nat.two_pow_pos 63)]
  have h3 : a / 2 ^ 63 = 0 ∨ a / 2 ^ 63 = 1 := by omega
  generalize a ^^^ 2 ^ 63 = t at h1 h2
  rcases h3 with h3 | h3
  · rw [h3] at h2
    have h2 : t / 2 ^ 63 = 1 := h2
    omega
  · rw [h3] at h2
    have h2 : t / 2 ^ 63 = 0 := h2
    omega
theorem uN_xor (x : Int64) : uN (x ^^^ (-9223372036854775808)) = (uN x + 9223372036854775808) % 18446744073709551616 := by
  rw [← nat_xor (uN_lt x)]
  exact UInt64.toNat_xor _ _
theorem uN_int (x : Int64) : x.toInt = if 2 * uN x < 18446744073709551616 then (uN x : Int) else (uN x : Int) - 18446744073709551616 := BitVec.toInt_eq_toNat_cond _
theorem uN_le (x y : Int64) : (x ^^^ (-9223372036854775808)) ≤ (y ^^^ (-9223372036854775808)) ↔ uN x ≤ uN y := by
  have hx := uN_lt x
  have hy := uN_lt y
  rw [Int64.le_iff_toInt_le, uN_int, uN_int, uN_xor, uN_xor]
  omega
theorem uN_sk (x : Int64) {k : Nat} (hk : k < 64) : uN (x.toUInt64 >>> ((nI k).toInt64.toUInt64 &&& Int64.toUInt64 63)).toInt64 = uN x / 2 ^ k := by
  have h : ((nI k).toInt64.toUInt64 &&& Int64.toUInt64 63).toNat % 64 = k := by
    rw [nI_l (by omega), UInt64.toNat_and]
    have e : (lN k).toUInt64.toNat = k % 2 ^ 64 := rfl
    have e2 : (Int64.toUInt64 63).toNat = 2 ^ 6 - 1 := by decide
    rw [e, e2, Nat.and_two_pow_sub_one_eq_mod]
    omega
  rw [uN_shr, h]
/-! ===== unsigned comparison by xor with the least ===== -/
theorem lN_bv (n : Nat) : (lN n).toBitVec = BitVec.ofNat 64 n := rfl
theorem lN_nat {n : Nat} (h : n < 2 ^ 64) : (lN n).toBitVec.toNat = n := by rw [lN_bv, BitVec.toNat_ofNat]; exact Nat.mod_eq_of_lt h
theorem lN_xor (a b : Nat) : lN a ^^^ lN b = lN (a ^^^ b) := by
  apply Int64.toBitVec_inj.mp; rw [Int64.toBitVec_xor, lN_bv, lN_bv, lN_bv]; apply BitVec.eq_of_getLsbD_eq; intro i hi; simp [BitVec.getLsbD_ofNat, Nat.testBit_xor, hi]
theorem lN_ti {m : Nat} (h : m < 2 ^ 64) : (lN m).toInt = if m < 2 ^ 63 then (m : Int) else (m : Int) - 2 ^ 64 := by
  have c := BitVec.toInt_eq_toNat_cond (lN m).toBitVec
  rw [lN_nat h] at c
  show (lN m).toBitVec.toInt = _
  rw [c]
  split <;> split <;> omega
theorem xor63 {x : Nat} (h : x < 2 ^ 63) : x ^^^ 2 ^ 63 = 2 ^ 63 + x := by
  apply Nat.eq_of_testBit_eq
  intro i
  rw [Nat.testBit_xor, Nat.testBit_two_pow]
  rcases Nat.lt_trichotomy i 63 with z | z | z
  · rw [Nat.testBit_two_pow_add_gt z, decide_eq_false (by omega)]; simp
  · subst z; rw [Nat.testBit_two_pow_add_eq]; simp
  · have hp : 2 ^ 64 ≤ 2 ^ i := Nat.pow_le_pow_right (by decide) z
    rw [Nat.testBit_lt_two_pow (show x < 2 ^ i by omega), Nat.testBit_lt_two_pow (show 2 ^ 63 + x < 2 ^ i by omega), decide_eq_false (by omega)]; rfl
theorem xorS {a : Nat} (h : a < 2 ^ 64) : (lN a ^^^ (-9223372036854775808)).toInt = (a : Int) - 2 ^ 63 := by
  rw [show (-9223372036854775808 : Int64) = lN (2 ^ 63) from by decide +kernel, lN_xor]
  rcases Nat.lt_or_ge a (2 ^ 63) with z | z
  · rw [xor63 z, lN_ti (by omega), if_neg (by omega)]; omega
  · obtain ⟨x, rfl⟩ : ∃ x, a = 2 ^ 63 + x := ⟨a - 2 ^ 63, by omega⟩
    rw [← xor63 (by omega), Nat.xor_assoc, Nat.xor_self, Nat.xor_zero, lN_ti (by omega), if_pos (by omega), xor63 (by omega)]; omega
theorem ultL {a b : Nat} (ha : a < 2 ^ 64) (hb : b < 2 ^ 64) : ((lN b ^^^ (-9223372036854775808)) ≤ (lN a ^^^ (-9223372036854775808))) ↔ b ≤ a := by
  rw [Int64.le_iff_toInt_le, xorS ha, xorS hb]; omega
/-! ===== Int64 masks of n low bits ===== -/
theorem cr_bits (W U M : BitVec 64) : ((W &&& U) &&& (U &&& (M ^^^ BitVec.allOnes 64))) = 0#64 ↔ (W &&& U) &&& M = W &&& U := by
  constructor
  · intro h
    apply BitVec.eq_of_getLsbD_eq
    intro i hi
    have e := congrArg (fun x => BitVec.getLsbD x i) h
    simp only [BitVec.getLsbD_and, BitVec.getLsbD_xor, BitVec.getLsbD_allOnes, BitVec.getLsbD_zero, hi, decide_true] at e ⊢
    revert e
    cases W.getLsbD i <;> cases U.getLsbD i <;> cases M.getLsbD i <;> decide
  · intro h
    apply BitVec.eq_of_getLsbD_eq
    intro i hi
    have e := congrArg (fun x => BitVec.getLsbD x i) h
    simp only [BitVec.getLsbD_and, BitVec.getLsbD_xor, BitVec.getLsbD_allOnes, BitVec.getLsbD_zero, hi, decide_true] at e ⊢
    revert e
    cases W.getLsbD i <;> cases U.getLsbD i <;> cases M.getLsbD i <;> decide
theorem cr_mask (w U m : Int64) (n : Nat) (hm : m.toBitVec.toNat = 2 ^ n - 1) : ((w &&& U) &&& (U &&& (m ^^^ (-1)))) = 0 ↔ (w &&& U).toBitVec.toNat < 2 ^ n := by
  have e0 : (-1 : Int64).toBitVec = BitVec.allOnes 64 := by decide
  have z0 : (0 : Int64).toBitVec = 0#64 := by decide
  rw [← Int64.toBitVec_inj, z0, Int64.toBitVec_and, Int64.toBitVec_and, Int64.toBitVec_and, Int64.toBitVec_xor, e0, cr_bits]
  generalize w.toBitVec &&& U.toBitVec = T
  rw [← BitVec.toNat_inj, BitVec.toNat_and, hm, Nat.and_two_pow_sub_one_eq_mod]
  constructor
  · intro h
    have t := Nat.mod_lt T.toNat (Nat.two_pow_pos n)
    rw [h] at t
    exact t
  · exact Nat.mod_eq_of_lt
theorem cr_shr (t : Int64) (x : UInt64) (n : Nat) (hx : x.toNat % 64 = n) : (t.toUInt64 >>> x).toInt64 = 0 ↔ t.toBitVec.toNat < 2 ^ n := by
  rw [← Int64.toBitVec_inj, ← BitVec.toNat_inj]
  show (t.toUInt64 >>> x).toNat = 0 ↔ t.toUInt64.toNat < 2 ^ n
  rw [UInt64.toNat_shiftRight, hx, Nat.shiftRight_eq_div_pow]
  constructor
  · intro h
    have d : t.toUInt64.toNat / 2 ^ n < 1 := by
      rw [h]
      decide
    have e := (Nat.div_lt_iff_lt_mul (Nat.two_pow_pos n)).mp d
    rw [Nat.one_mul] at e
    exact e
  · exact Nat.div_eq_of_lt
theorem cr_amt (s : Int64) : ∃ n, n < 64 ∧ s &&& 63 = lN n ∧ (s.toUInt64 &&& Int64.toUInt64 63).toNat % 64 = n := by
  have e : (s.toUInt64 &&& Int64.toUInt64 63).toNat = s.toUInt64.toNat % 2 ^ 6 := by
    rw [UInt64.toNat_and, show (Int64.toUInt64 63).toNat = 2 ^ 6 - 1 from by decide, Nat.and_two_pow_sub_one_eq_mod]
  refine ⟨s.toUInt64.toNat % 2 ^ 6, by omega, ?_, by omega⟩
  rw [← Int64.toBitVec_inj, ← BitVec.toNat_inj]
  show (s.toUInt64 &&& Int64.toUInt64 63).toNat = (BitVec.ofNat 64 (s.toUInt64.toNat % 2 ^ 6)).toNat
  rw [e, BitVec.toNat_ofNat]
  omega
/-! plain facts to paste, each family by itself; over the kit's nI, lN and upd -/
/-! ===== drawers: more things than places ===== -/
theorem fb_holes : ∀ (m n : Nat) (f : Nat → Nat), (∀ i, i < n → f i < m) → (∀ i j, i < j → j < n → f i ≠ f j) → n ≤ m := by
  intro m
  induction m with
  | zero =>
    intro n f h1 _
    rcases Nat.eq_zero_or_pos n with h | h
    · omega
    · exact absurd (h1 0 h) (Nat.not_lt_zero _)
  | succ m ih =>
    intro n f h1 h2
    by_cases hx : ∃ i, i < n ∧ f i = m
    · obtain ⟨a, ha, hfa⟩ := hx
      have hg := ih (n - 1) (fun i => if i < a then f i else f (i + 1)) (by
        intro i hi
        by_cases q : i < a
        · simp only [if_pos q]
          have b1 := h1 i (by omega)
          have b2 := h2 i a q ha
          omega
        · simp only [if_neg q]
          have b1 := h1 (i + 1) (by omega)
          have b2 := h2 a (i + 1) (by omega) (by omega)
          omega) (by
        intro i j hij hj
        by_cases q : i < a
        · by_cases r : j < a
          · simp only [if_pos q, if_pos r]
            exact h2 i j hij (by omega)
          · simp only [if_pos q, if_neg r]
            exact h2 i (j + 1) (by omega) (by omega)
        · have r : ¬ j < a := by omega
          simp only [if_neg q, if_neg r]
          exact h2 (i + 1) (j + 1) (by omega) (by omega))
      omega
    · have hg := ih n f (fun i hi => by
        have b1 := h1 i hi
        have b2 : f i ≠ m := fun e => hx ⟨i, hi, e⟩
        omega) h2
      omega
/-- two of them in one place -/
theorem fb_twice {m n : Nat} {f : Nat → Nat} (h : ∀ i, i < n → f i < m) (hm : m < n) : ∃ i j, i < j ∧ j < n ∧ f i = f j := by
  refine Classical.byContradiction fun hx => ?_
  have := fb_holes m n f h (fun i j hij hj e => hx ⟨i, j, hij, hj, e⟩)
  omega
/-- as many as places, none twice: each place is taken -/
theorem fb_onto {n : Nat} {f : Nat → Nat} (h : ∀ i, i < n → f i < n) (h2 : ∀ i j, i < j → j < n → f i ≠ f j) {y : Nat} (hy : y < n) : ∃ i, i < n ∧ f i = y := by
  refine Classical.byContradiction fun hx => ?_
  have hne : ∀ i, i < n → f i ≠ y := fun i hi e => hx ⟨i, hi, e⟩
  have := fb_holes (n - 1) n (fun i => if f i < y then f i else f i - 1) (by
    intro i hi
    have b1 := h i hi
    have b2 := hne i hi
    by_cases q : f i < y
    · simp only [if_pos q]; omega
    · simp only [if_neg q]; omega) (by
    intro i j hij hj
    have b1 := hne i (by omega)
    have b2 := hne j hj
    have b3 := h2 i j hij hj
    by_cases q : f i < y
    · by_cases r : f j < y
      · simp only [if_pos q, if_pos r]; exact b3
      · simp only [if_pos q, if_neg r]; omega
    · by_cases r : f j < y
      · simp only [if_neg q, if_pos r]; omega
      · simp only [if_neg q, if_neg r]; omega)
  omega
/-! ===== how many places have a property ===== -/
def fb_ct (p : Nat → Bool) : Nat → Nat
  | 0 => 0
  | n + 1 => fb_ct p n + (if p n then 1 else 0)
theorem fb_ct_succ (p : Nat → Bool) (n : Nat) : fb_ct p (n + 1) = fb_ct p n + (if p n then 1 else 0) := rfl
theorem fb_ct_le (p : Nat → Bool) : ∀ n, fb_ct p n ≤ n
  | 0 => Nat.le_refl _
  | n + 1 => by
    have h := fb_ct_le p n
    rw [fb_ct_succ]
    split <;> omega
theorem fb_ct_step (p : Nat → Bool) (m : Nat) : ∀ n, fb_ct p m ≤ fb_ct p (m + n)
  | 0 => Nat.le_refl _
  | n + 1 => by
    have h := fb_ct_step p m n
    show fb_ct p m ≤ fb_ct p (m + n + 1)
    rw [fb_ct_succ]
    omega
theorem fb_ct_mono (p : Nat → Bool) {m n : Nat} (h : m ≤ n) : fb_ct p m ≤ fb_ct p n := by
  have := fb_ct_step p m (n - m)
  rwa [Nat.add_sub_cancel' h] at this
theorem fb_ct_cong {p q : Nat → Bool} : ∀ {n : Nat}, (∀ k, k < n → p k = q k) → fb_ct p n = fb_ct q n
  | 0, _ => rfl
  | n + 1, h => by
    rw [fb_ct_succ, fb_ct_succ, fb_ct_cong (fun k hk => h k (by omega)), h n (by omega)]
/-- one place changed -/
theorem fb_ct_out (p : Nat → Bool) (b : Bool) {i n : Nat} (h : n ≤ i) : fb_ct (fun k => if k = i then b else p k) n = fb_ct p n :=
  fb_ct_cong fun k hk => if_neg (by omega)
theorem fb_ct_upd (p : Nat → Bool) (b : Bool) {i : Nat} : ∀ {n : Nat}, i < n → fb_ct (fun k => if k = i then b else p k) n + (if p i then 1 else 0) = fb_ct p n + (if b then 1 else 0)
  | 0, h => absurd h (Nat.not_lt_zero i)
  | n + 1, h => by
    rw [fb_ct_succ, fb_ct_succ]
    rcases Nat.lt_or_ge i n with q | q
    · have := fb_ct_upd p b q
      have e : (if n = i then b else p n) = p n := if_neg (by omega)
      rw [e]
      omega
    · have e : i = n := by omega
      subst e
      rw [fb_ct_out p b (Nat.le_refl _)]
      simp only [if_true]
      omega
theorem fb_ct_sub {p q : Nat → Bool} : ∀ {n : Nat}, (∀ k, k < n → p k = true → q k = true) → fb_ct p n ≤ fb_ct q n
  | 0, _ => Nat.le_refl _
  | n + 1, h => by
    have h1 := fb_ct_sub (n := n) (p := p) (q := q) (fun k hk => h k (by omega))
    have h2 := h n (by omega)
    rw [fb_ct_succ, fb_ct_succ]
    cases hp : p n <;> cases hq : q n <;> simp_all <;> omega
theorem fb_ct_or {p q : Nat → Bool} : ∀ {n : Nat}, (∀ k, k < n → ¬ (p k = true ∧ q k = true)) → fb_ct (fun k => p k || q k) n = fb_ct p n + fb_ct q n
  | 0, _ => rfl
  | n + 1, h => by
    have h1 := fb_ct_or (n := n) (p := p) (q := q) (fun k hk => h k (by omega))
    have h2 := h n (by omega)
    rw [fb_ct_succ, fb_ct_succ, fb_ct_succ, h1]
    cases hp : p n <;> cases hq : q n <;> simp_all <;> omega
theorem fb_ct_not (p : Nat → Bool) : ∀ n, fb_ct p n + fb_ct (fun k => !p k) n = n
  | 0 => rfl
  | n + 1 => by
    have h := fb_ct_not p n
    rw [fb_ct_succ, fb_ct_succ]
    cases p n <;> simp <;> omega
theorem fb_ct_split (p : Nat → Bool) (m : Nat) : ∀ n, fb_ct p (m + n) = fb_ct p m + fb_ct (fun k => p (m + k)) n
  | 0 => rfl
  | n + 1 => by
    have h := fb_ct_split p m n
    show fb_ct p (m + n + 1) = _
    rw [fb_ct_succ, fb_ct_succ, h, Nat.add_assoc]
theorem fb_ct_zero {p : Nat → Bool} : ∀ {n : Nat}, fb_ct p n = 0 ↔ ∀ k, k < n → p k = false
  | 0 => ⟨fun _ k hk => absurd hk (Nat.not_lt_zero k), fun _ => rfl⟩
  | n + 1 => by
    have h := fb_ct_zero (p := p) (n := n)
    rw [fb_ct_succ]
    constructor
    · intro e k hk
      have e1 : fb_ct p n = 0 := by omega
      rcases Nat.lt_or_ge k n with q | q
      · exact h.mp e1 k q
      · have ek : k = n := by omega
        subst ek
        cases hp : p k
        · rfl
        · simp [hp] at e
    · intro a
      rw [h.mpr (fun k hk => a k (by omega)), a n (by omega)]
      rfl
theorem fb_ct_pos {p : Nat → Bool} {n : Nat} : 0 < fb_ct p n ↔ ∃ k, k < n ∧ p k = true := by
  constructor
  · intro h
    refine Classical.byContradiction fun hx => ?_
    have := fb_ct_zero.mpr (fun k hk => by
      cases hp : p k
      · rfl
      · exact absurd ⟨k, hk, hp⟩ hx : ∀ k, k < n → p k = false)
    omega
  · rintro ⟨k, hk, hp⟩
    rcases Nat.eq_zero_or_pos (fb_ct p n) with e | e
    · have := fb_ct_zero.mp e k hk
      rw [this] at hp
      cases hp
    · exact e
theorem fb_ct_all {p : Nat → Bool} {n : Nat} : fb_ct p n = n ↔ ∀ k, k < n → p k = true := by
  have h := fb_ct_not p n
  constructor
  · intro e k hk
    have z : fb_ct (fun k => !p k) n = 0 := by omega
    have := fb_ct_zero.mp z k hk
    cases hp : p k
    · simp [hp] at this
    · rfl
  · intro a
    have z : fb_ct (fun k => !p k) n = 0 := fb_ct_zero.mpr (fun k hk => by simp [a k hk])
    omega
/-- the k-th place with the property -/
theorem fb_ct_kth {p : Nat → Bool} {k : Nat} : ∀ {n : Nat}, k < fb_ct p n → ∃ i, i < n ∧ p i = true ∧ fb_ct p i = k
  | 0, h => absurd h (Nat.not_lt_zero k)
  | n + 1, h => by
    rcases Nat.lt_or_ge k (fb_ct p n) with q | q
    · obtain ⟨i, h1, h2⟩ := fb_ct_kth q
      exact ⟨i, by omega, h2⟩
    · rw [fb_ct_succ] at h
      cases hp : p n
      · simp [hp] at h; omega
      · simp [hp] at h
        exact ⟨n, by omega, hp, by omega⟩
theorem fb_ct_kth_one {p : Nat → Bool} {i j : Nat} (hi : p i = true) (hj : p j = true) (e : fb_ct p i = fb_ct p j) : i = j := by
  have key : ∀ a b : Nat, a < b → p a = true → fb_ct p a < fb_ct p b := by
    intro a b hab ha
    have h := fb_ct_mono p (show a + 1 ≤ b from hab)
    rw [fb_ct_succ, ha] at h
    simp at h
    omega
  rcases Nat.lt_trichotomy i j with q | q | q
  · have := key i j q hi; omega
  · exact q
  · have := key j i q hj; omega
/-! ===== sums over a range: one place changed, parts, bounds ===== -/
def fb_sm (f : Nat → Nat) : Nat → Nat
  | 0 => 0
  | n + 1 => fb_sm f n + f n
theorem fb_sm_succ (f : Nat → Nat) (n : Nat) : fb_sm f (n + 1) = fb_sm f n + f n := rfl
theorem fb_sm_cong {f g : Nat → Nat} : ∀ {n : Nat}, (∀ k, k < n → f k = g k) → fb_sm f n = fb_sm g n
  | 0, _ => rfl
  | n + 1, h => by rw [fb_sm_succ, fb_sm_succ, fb_sm_cong (fun k hk => h k (by omega)), h n (by omega)]
theorem fb_sm_out (f : Nat → Nat) (v : Nat) {i n : Nat} (h : n ≤ i) : fb_sm (fun k => if k = i then v else f k) n = fb_sm f n :=
  fb_sm_cong fun k hk => if_neg (by omega)
theorem fb_sm_upd (f : Nat → Nat) (v : Nat) {i : Nat} : ∀ {n : Nat}, i < n → fb_sm (fun k => if k = i then v else f k) n + f i = fb_sm f n + v
  | 0, h => absurd h (Nat.not_lt_zero i)
  | n + 1, h => by
    rw [fb_sm_succ, fb_sm_succ]
    rcases Nat.lt_or_ge i n with q | q
    · have := fb_sm_upd f v q
      have e : (if n = i then v else f n) = f n := if_neg (by omega)
      rw [e]
      omega
    · have e : i = n := by omega
      subst e
      rw [fb_sm_out f v (Nat.le_refl _)]
      simp only [if_true]
      omega
theorem fb_sm_add (f g : Nat → Nat) : ∀ n, fb_sm (fun k => f k + g k) n = fb_sm f n + fb_sm g n
  | 0 => rfl
  | n + 1 => by
    have h := fb_sm_add f g n
    rw [fb_sm_succ, fb_sm_succ, fb_sm_succ, h]
    omega
theorem fb_sm_le {f g : Nat → Nat} : ∀ {n : Nat}, (∀ k, k < n → f k ≤ g k) → fb_sm f n ≤ fb_sm g n
  | 0, _ => Nat.le_refl _
  | n + 1, h => by
    have h1 := fb_sm_le (n := n) (f := f) (g := g) (fun k hk => h k (by omega))
    have h2 := h n (by omega)
    rw [fb_sm_succ, fb_sm_succ]
    omega
theorem fb_sm_const (c : Nat) : ∀ n, fb_sm (fun _ => c) n = n * c
  | 0 => by rw [Nat.zero_mul]; rfl
  | n + 1 => by rw [fb_sm_succ, fb_sm_const c n, Nat.succ_mul]
theorem fb_sm_bound {f : Nat → Nat} {c n : Nat} (h : ∀ k, k < n → f k ≤ c) : fb_sm f n ≤ n * c := by
  rw [← fb_sm_const c n]
  exact fb_sm_le h
theorem fb_sm_mono (f : Nat → Nat) (m : Nat) : ∀ n, fb_sm f m ≤ fb_sm f (m + n)
  | 0 => Nat.le_refl _
  | n + 1 => by
    have h := fb_sm_mono f m n
    show fb_sm f m ≤ fb_sm f (m + n + 1)
    rw [fb_sm_succ]
    omega
theorem fb_sm_part (f : Nat → Nat) {i n : Nat} (h : i < n) : fb_sm f i + f i ≤ fb_sm f n := by
  have := fb_sm_mono f (i + 1) (n - (i + 1))
  rw [fb_sm_succ, show i + 1 + (n - (i + 1)) = n by omega] at this
  exact this
theorem fb_sm_split (f : Nat → Nat) (m : Nat) : ∀ n, fb_sm f (m + n) = fb_sm f m + fb_sm (fun k => f (m + k)) n
  | 0 => rfl
  | n + 1 => by
    have h := fb_sm_split f m n
    show fb_sm f (m + n + 1) = _
    rw [fb_sm_succ, fb_sm_succ, h, Nat.add_assoc]
theorem fb_sm_zero {f : Nat → Nat} {n : Nat} (h : fb_sm f n = 0) : ∀ k, k < n → f k = 0 := fun k hk => by
  have := fb_sm_part f hk
  omega
/-- the same over whole numbers -/
def fb_si (f : Nat → Int) : Nat → Int
  | 0 => 0
  | n + 1 => fb_si f n + f n
theorem fb_si_succ (f : Nat → Int) (n : Nat) : fb_si f (n + 1) = fb_si f n + f n := rfl
theorem fb_si_cong {f g : Nat → Int} : ∀ {n : Nat}, (∀ k, k < n → f k = g k) → fb_si f n = fb_si g n
  | 0, _ => rfl
  | n + 1, h => by rw [fb_si_succ, fb_si_succ, fb_si_cong (fun k hk => h k (by omega)), h n (by omega)]
theorem fb_si_out (f : Nat → Int) (v : Int) {i n : Nat} (h : n ≤ i) : fb_si (fun k => if k = i then v else f k) n = fb_si f n :=
  fb_si_cong fun k hk => if_neg (by omega)
theorem fb_si_upd (f : Nat → Int) (v : Int) {i : Nat} : ∀ {n : Nat}, i < n → fb_si (fun k => if k = i then v else f k) n = fb_si f n - f i + v
  | 0, h => absurd h (Nat.not_lt_zero i)
  | n + 1, h => by
    rw [fb_si_succ, fb_si_succ]
    rcases Nat.lt_or_ge i n with q | q
    · have := fb_si_upd f v q
      have e : (if n = i then v else f n) = f n := if_neg (by omega)
      rw [e]
      omega
    · have e : i = n := by omega
      subst e
      rw [fb_si_out f v (Nat.le_refl _)]
      simp only [if_true]
      omega
theorem fb_si_add (f g : Nat → Int) : ∀ n, fb_si (fun k => f k + g k) n = fb_si f n + fb_si g n
  | 0 => rfl
  | n + 1 => by
    have h := fb_si_add f g n
    rw [fb_si_succ, fb_si_succ, fb_si_succ, h]
    omega
theorem fb_si_sub (f g : Nat → Int) : ∀ n, fb_si (fun k => f k - g k) n = fb_si f n - fb_si g n
  | 0 => rfl
  | n + 1 => by
    have h := fb_si_sub f g n
    rw [fb_si_succ, fb_si_succ, fb_si_succ, h]
    omega
theorem fb_si_mul (c : Int) (f : Nat → Int) : ∀ n, fb_si (fun k => c * f k) n = c * fb_si f n
  | 0 => (Int.mul_zero c).symm
  | n + 1 => by
    have h := fb_si_mul c f n
    rw [fb_si_succ, fb_si_succ, h, Int.mul_add]
theorem fb_si_split (f : Nat → Int) (m : Nat) : ∀ n, fb_si f (m + n) = fb_si f m + fb_si (fun k => f (m + k)) n
  | 0 => (Int.add_zero _).symm
  | n + 1 => by
    have h := fb_si_split f m n
    show fb_si f (m + n + 1) = _
    rw [fb_si_succ, fb_si_succ, h, Int.add_assoc]
theorem fb_si_nat (f : Nat → Nat) : ∀ n, fb_si (fun k => (f k : Int)) n = (fb_sm f n : Int)
  | 0 => rfl
  | n + 1 => by
    have h := fb_si_nat f n
    rw [fb_si_succ, fb_sm_succ, h]
    omega
theorem fb_si_bound {f : Nat → Int} {c : Int} (hc : 0 ≤ c) : ∀ {n : Nat}, (∀ k, k < n → -c ≤ f k ∧ f k ≤ c) → -(n * c) ≤ fb_si f n ∧ fb_si f n ≤ n * c
  | 0, _ => by simp [fb_si]
  | n + 1, h => by
    have h1 := fb_si_bound (n := n) (f := f) hc (fun k hk => h k (by omega))
    have h2 := h n (by omega)
    have e : ((n + 1 : Nat) : Int) * c = n * c + c := by rw [Int.natCast_add, Int.add_mul]; simp
    rw [fb_si_succ, e]
    omega
/-! ===== bits of a long that isn't negative ===== -/
theorem fb_andL (a b : Nat) : lN a &&& lN b = lN (a &&& b) := by
  apply Int64.toBitVec_inj.1
  show BitVec.ofNat 64 a &&& BitVec.ofNat 64 b = BitVec.ofNat 64 (a &&& b)
  apply BitVec.eq_of_getLsbD_eq
  intro i hi
  simp [hi]
theorem fb_orL (a b : Nat) : lN a ||| lN b = lN (a ||| b) := by
  apply Int64.toBitVec_inj.1
  show BitVec.ofNat 64 a ||| BitVec.ofNat 64 b = BitVec.ofNat 64 (a ||| b)
  apply BitVec.eq_of_getLsbD_eq
  intro i hi
  simp [hi]
theorem fb_xorL (a b : Nat) : lN a ^^^ lN b = lN (a ^^^ b) := by
  apply Int64.toBitVec_inj.1
  show BitVec.ofNat 64 a ^^^ BitVec.ofNat 64 b = BitVec.ofNat 64 (a ^^^ b)
  apply BitVec.eq_of_getLsbD_eq
  intro i hi
  simp [hi]
theorem fb_xorI (a b : Nat) : nI a ^^^ nI b = nI (a ^^^ b) := by
  apply Int32.toBitVec_inj.1
  show BitVec.ofNat 32 a ^^^ BitVec.ofNat 32 b = BitVec.ofNat 32 (a ^^^ b)
  apply BitVec.eq_of_getLsbD_eq
  intro i hi
  simp [hi]
theorem fb_maskL (n k : Nat) : lN n &&& lN (2 ^ k - 1) = lN (n % 2 ^ k) := by rw [fb_andL, Nat.and_two_pow_sub_one_eq_mod]
theorem fb_or_sumL {a k : Nat} (b : Nat) (h : a < 2 ^ k) : lN (2 ^ k * b) ||| lN a = lN (2 ^ k * b + a) := by rw [fb_orL, Nat.two_pow_add_eq_or_of_lt h]
theorem fb_lN_inj {a b : Nat} (ha : a < 2 ^ 63) (hb : b < 2 ^ 63) : lN a = lN b ↔ a = b := by
  constructor
  · intro h
    have h1 : (BitVec.ofNat 64 a).toNat = (BitVec.ofNat 64 b).toNat := congrArg (fun x : Int64 => x.toBitVec.toNat) h
    rw [BitVec.toNat_ofNat, BitVec.toNat_ofNat, Nat.mod_eq_of_lt (by omega), Nat.mod_eq_of_lt (by omega)] at h1
    exact h1
  · rintro rfl; rfl
theorem fb_bit_nat (n j : Nat) : n &&& 2 ^ j = 0 ↔ n.testBit j = false := by
  constructor
  · intro h
    have h1 : (n &&& 2 ^ j).testBit j = false := by rw [h]; simp
    rw [Nat.testBit_and] at h1
    simpa using h1
  · intro h
    apply Nat.eq_of_testBit_eq
    intro i
    rw [Nat.testBit_and]
    by_cases hi : j = i
    · subst hi; simp [h]
    · first | (simp [Nat.testBit_two_pow, hi]; done) | (simp [Nat.testBit_two_pow_of_ne hi]; done)
/-- one bit of a long -/
theorem fb_bitL {n j : Nat} (hj : j < 63) : lN n &&& lN (2 ^ j) = 0 ↔ n.testBit j = false := by
  have h2 : (2 : Nat) ^ j < 2 ^ 63 := Nat.pow_lt_pow_right (by decide) hj
  have hle : n &&& 2 ^ j ≤ 2 ^ j := Nat.and_le_right
  rw [fb_andL, ← fb_bit_nat, show (0 : Int64) = lN 0 from rfl]
  exact fb_lN_inj (by omega) (by decide)
/-- a bit set, a bit taken off -/
theorem fb_bit_set (n j i : Nat) : (n ||| 2 ^ j).testBit i = (n.testBit i || decide (i = j)) := by
  rw [Nat.testBit_or]
  by_cases h : j = i
  · subst h; simp
  · have h2 : ¬ i = j := fun e => h e.symm
    first | (simp [Nat.testBit_two_pow, h, h2]; done) | (simp [Nat.testBit_two_pow_of_ne h, h2]; done)
theorem fb_bit_flip (n j i : Nat) : (n ^^^ 2 ^ j).testBit i = (n.testBit i ^^ decide (i = j)) := by
  rw [Nat.testBit_xor]
  by_cases h : j = i
  · subst h; simp
  · have h2 : ¬ i = j := fun e => h e.symm
    first | (simp [Nat.testBit_two_pow, h, h2]; done) | (simp [Nat.testBit_two_pow_of_ne h, h2]; done)
/-! ===== a stretch of an array written over by a function ===== -/
def fb_put {α : Type} (f g : Nat → α) (a n : Nat) : Nat → α := fun k => if a ≤ k ∧ k < a + n then g (k - a) else f k
theorem fb_put_0 {α : Type} (f g : Nat → α) (a : Nat) : fb_put f g a 0 = f := funext fun k => if_neg (by omega)
theorem fb_put_in {α : Type} {f g : Nat → α} {a n k : Nat} (h1 : a ≤ k) (h2 : k < a + n) : fb_put f g a n k = g (k - a) := if_pos ⟨h1, h2⟩
theorem fb_put_out {α : Type} {f g : Nat → α} {a n k : Nat} (h : k < a ∨ a + n ≤ k) : fb_put f g a n k = f k := if_neg (by omega)
theorem fb_put_succ (f g : Nat → Int32) (a n : Nat) : upd (fb_put f g a n) (a + n) (g n) = fb_put f g a (n + 1) := by
  funext k
  by_cases h : k = a + n
  · subst h
    simp [upd, fb_put]
  · by_cases h1 : a ≤ k ∧ k < a + n
    · have h2 : a ≤ k ∧ k < a + (n + 1) := by omega
      simp only [upd, fb_put, if_neg h, if_pos h1, if_pos h2]
    · have h2 : ¬ (a ≤ k ∧ k < a + (n + 1)) := by omega
      simp only [upd, fb_put, if_neg h, if_neg h1, if_neg h2]
/-- .. from the far end down -/
theorem fb_put_down (f g : Nat → Int32) {a n m : Nat} (h : m < n) : upd (fb_put f (fun k => g (k + (m + 1))) (a + (m + 1)) (n - (m + 1))) (a + m) (g m) = fb_put f (fun k => g (k + m)) (a + m) (n - m) := by
  funext k
  by_cases h0 : k = a + m
  · subst h0
    simp only [upd, if_true]
    rw [fb_put_in (by omega) (by omega)]
    exact congrArg g (by omega)
  · simp only [upd, if_neg h0]
    by_cases h1 : a + (m + 1) ≤ k ∧ k < a + (m + 1) + (n - (m + 1))
    · rw [fb_put_in h1.1 h1.2, fb_put_in (by omega) (by omega)]
      exact congrArg g (by omega)
    · rw [fb_put_out (by omega), fb_put_out (by omega)]
theorem fb_put_cong {α : Type} {f f2 g g2 : Nat → α} {a n : Nat} (hf : ∀ k, (k < a ∨ a + n ≤ k) → f k = f2 k) (hg : ∀ k, k < n → g k = g2 k) : fb_put f g a n = fb_put f2 g2 a n := by
  funext k
  by_cases h : a ≤ k ∧ k < a + n
  · rw [fb_put_in h.1 h.2, fb_put_in h.1 h.2, hg _ (by omega)]
  · rw [fb_put_out (by omega), fb_put_out (by omega), hf _ (by omega)]
/-! ===== the least, the first, the best so far; that there is one alone ===== -/
theorem fb_first {p : Nat → Prop} [DecidablePred p] : ∀ {n : Nat}, (∃ i, i < n ∧ p i) → ∃ i, i < n ∧ p i ∧ ∀ j, j < i → ¬ p j
  | 0, h => by obtain ⟨i, hi, -⟩ := h; exact absurd hi (Nat.not_lt_zero i)
  | n + 1, h => by
    by_cases q : ∃ i, i < n ∧ p i
    · obtain ⟨i, h1, h2⟩ := fb_first q
      exact ⟨i, by omega, h2⟩
    · obtain ⟨i, h1, h2⟩ := h
      have e : i = n := by
        rcases Nat.lt_or_ge i n with r | r
        · exact absurd ⟨i, r, h2⟩ q
        · omega
      subst e
      exact ⟨i, by omega, h2, fun j hj hp => q ⟨j, hj, hp⟩⟩
theorem fb_first_one {p : Nat → Prop} {i j : Nat} (hi : p i) (hi2 : ∀ k, k < i → ¬ p k) (hj : p j) (hj2 : ∀ k, k < j → ¬ p k) : i = j := by
  rcases Nat.lt_trichotomy i j with q | q | q
  · exact absurd hi (hj2 i q)
  · exact q
  · exact absurd hj (hi2 j q)
theorem fb_last {p : Nat → Prop} [DecidablePred p] : ∀ {n : Nat}, (∃ i, i < n ∧ p i) → ∃ i, i < n ∧ p i ∧ ∀ j, i < j → j < n → ¬ p j
  | 0, h => by obtain ⟨i, hi, -⟩ := h; exact absurd hi (Nat.not_lt_zero i)
  | n + 1, h => by
    by_cases q : p n
    · exact ⟨n, by omega, q, fun j h1 h2 => by omega⟩
    · obtain ⟨i, h1, h2⟩ := h
      have hi : i < n := by
        rcases Nat.lt_or_ge i n with r | r
        · exact r
        · have e : i = n := by omega
          subst e
          exact absurd h2 q
      obtain ⟨i2, a1, a2, a3⟩ := fb_last (n := n) ⟨i, hi, h2⟩
      refine ⟨i2, by omega, a2, fun j b1 b2 => ?_⟩
      rcases Nat.lt_or_ge j n with r | r
      · exact a3 j b1 r
      · have e : j = n := by omega
        subst e
        exact q
/-- the first greatest -/
theorem fb_best (f : Nat → Int) : ∀ {n : Nat}, 0 < n → ∃ i, i < n ∧ (∀ j, j < n → f j ≤ f i) ∧ ∀ j, j < i → f j < f i
  | 0, h => absurd h (Nat.lt_irrefl 0)
  | 1, _ => ⟨0, by omega, fun j hj => by have e : j = 0 := by omega
                                         subst e; exact Int.le_refl _, fun j hj => absurd hj (Nat.not_lt_zero j)⟩
  | n + 2, _ => by
    obtain ⟨i, h1, h2, h3⟩ := fb_best f (n := n + 1) (by omega)
    by_cases q : f i < f (n + 1)
    · refine ⟨n + 1, by omega, fun j hj => ?_, fun j hj => ?_⟩
      · rcases Nat.lt_or_ge j (n + 1) with r | r
        · have := h2 j r; omega
        · have e : j = n + 1 := by omega
          subst e; exact Int.le_refl _
      · have := h2 j hj; omega
    · refine ⟨i, by omega, fun j hj => ?_, h3⟩
      rcases Nat.lt_or_ge j (n + 1) with r | r
      · exact h2 j r
      · have e : j = n + 1 := by omega
        subst e; omega
theorem fb_best_one {f : Nat → Int} {n i j : Nat} (hi : i < n) (hi2 : ∀ k, k < n → f k ≤ f i) (hi3 : ∀ k, k < i → f k < f i) (hj : j < n) (hj2 : ∀ k, k < n → f k ≤ f j) (hj3 : ∀ k, k < j → f k < f j) : i = j := by
  rcases Nat.lt_trichotomy i j with q | q | q
  · have a := hj3 i q
    have b := hi2 j hj
    omega
  · exact q
  · have a := hi3 j q
    have b := hj2 i hi
    omega
/-- the first least -/
theorem fb_low (f : Nat → Int) {n : Nat} (h : 0 < n) : ∃ i, i < n ∧ (∀ j, j < n → f i ≤ f j) ∧ ∀ j, j < i → f i < f j := by
  obtain ⟨i, h1, h2, h3⟩ := fb_best (fun k => -f k) h
  exact ⟨i, h1, fun j hj => by have := h2 j hj; omega, fun j hj => by have := h3 j hj; omega⟩
/-! ===== signed ints as whole numbers, within bounds ===== -/
theorem fb_rng (x : Int32) : -2147483648 ≤ x.toInt ∧ x.toInt < 2147483648 := by
  have h1 := Int32.le_toInt x
  have h2 := Int32.toInt_lt x
  omega
theorem fb_bmod {z : Int} (h1 : -2147483648 ≤ z) (h2 : z < 2147483648) : z.bmod (2 ^ 32) = z := by
  rw [Int.bmod_eq_of_le (by omega) (by omega)]
theorem fb_addI {x y : Int32} (h1 : -2147483648 ≤ x.toInt + y.toInt) (h2 : x.toInt + y.toInt < 2147483648) : (x + y).toInt = x.toInt + y.toInt := by
  rw [Int32.toInt_add, fb_bmod h1 h2]
theorem fb_subI {x y : Int32} (h1 : -2147483648 ≤ x.toInt - y.toInt) (h2 : x.toInt - y.toInt < 2147483648) : (x - y).toInt = x.toInt - y.toInt := by
  rw [Int32.toInt_sub, fb_bmod h1 h2]
theorem fb_mulI {x y : Int32} (h1 : -2147483648 ≤ x.toInt * y.toInt) (h2 : x.toInt * y.toInt < 2147483648) : (x * y).toInt = x.toInt * y.toInt := by
  rw [Int32.toInt_mul, fb_bmod h1 h2]
theorem fb_negI {x : Int32} (h : x.toInt ≠ -2147483648) : (-x).toInt = -x.toInt := by
  have := fb_rng x
  rw [Int32.toInt_neg, fb_bmod (by omega) (by omega)]
theorem fb_ofI {z : Int} (h1 : -2147483648 ≤ z) (h2 : z < 2147483648) : (Int32.ofInt z).toInt = z := by
  rw [Int32.toInt_ofInt, fb_bmod h1 h2]
theorem fb_asI (x : Int32) : Int32.ofInt x.toInt = x := Int32.ofInt_toInt x
theorem fb_rngL (x : Int64) : -9223372036854775808 ≤ x.toInt ∧ x.toInt < 9223372036854775808 := by
  have h1 := Int64.le_toInt x
  have h2 := Int64.toInt_lt x
  omega
theorem fb_bmodL {z : Int} (h1 : -9223372036854775808 ≤ z) (h2 : z < 9223372036854775808) : z.bmod (2 ^ 64) = z := by
  rw [Int.bmod_eq_of_le (by omega) (by omega)]
theorem fb_addL {x y : Int64} (h1 : -9223372036854775808 ≤ x.toInt + y.toInt) (h2 : x.toInt + y.toInt < 9223372036854775808) : (x + y).toInt = x.toInt + y.toInt := by
  rw [Int64.toInt_add, fb_bmodL h1 h2]
theorem fb_subL {x y : Int64} (h1 : -9223372036854775808 ≤ x.toInt - y.toInt) (h2 : x.toInt - y.toInt < 9223372036854775808) : (x - y).toInt = x.toInt - y.toInt := by
  rw [Int64.toInt_sub, fb_bmodL h1 h2]
theorem fb_mulL {x y : Int64} (h1 : -9223372036854775808 ≤ x.toInt * y.toInt) (h2 : x.toInt * y.toInt < 9223372036854775808) : (x * y).toInt = x.toInt * y.toInt := by
  rw [Int64.toInt_mul, fb_bmodL h1 h2]
/-! ===== cuts of what is narrow already ===== -/
theorem fb_byte {x : Int32} (h1 : -128 ≤ x.toInt) (h2 : x.toInt < 128) : x.toInt8.toInt32 = x := by
  apply Int32.toInt_inj.1
  rw [Int8.toInt_toInt32, Int32.toInt_toInt8, Int.bmod_eq_of_le (by omega) (by omega)]
theorem fb_short {x : Int32} (h1 : -32768 ≤ x.toInt) (h2 : x.toInt < 32768) : x.toInt16.toInt32 = x := by
  apply Int32.toInt_inj.1
  rw [Int16.toInt_toInt32, Int32.toInt_toInt16, Int.bmod_eq_of_le (by omega) (by omega)]
theorem fb_byte_rng (x : Int32) : -128 ≤ x.toInt8.toInt32.toInt ∧ x.toInt8.toInt32.toInt < 128 := by
  rw [Int8.toInt_toInt32]
  have h1 := Int8.le_toInt x.toInt8
  have h2 := Int8.toInt_lt x.toInt8
  omega
theorem fb_short_rng (x : Int32) : -32768 ≤ x.toInt16.toInt32.toInt ∧ x.toInt16.toInt32.toInt < 32768 := by
  rw [Int16.toInt_toInt32]
  have h1 := Int16.le_toInt x.toInt16
  have h2 := Int16.toInt_lt x.toInt16
  omega
theorem fb_byte_twice (x : Int32) : x.toInt8.toInt32.toInt8.toInt32 = x.toInt8.toInt32 := fb_byte (fb_byte_rng x).1 (fb_byte_rng x).2
theorem fb_short_twice (x : Int32) : x.toInt16.toInt32.toInt16.toInt32 = x.toInt16.toInt32 := fb_short (fb_short_rng x).1 (fb_short_rng x).2
theorem fb_char {n : Nat} (h : n < 65536) : (nI n).toUInt32.toUInt16.toUInt32.toInt32 = nI n := by
  apply Int32.toBitVec_inj.1
  apply BitVec.eq_of_toNat_eq
  have e1 : (nI n).toBitVec.toNat = n := by
    show (BitVec.ofNat 32 n).toNat = n
    rw [BitVec.toNat_ofNat, Nat.mod_eq_of_lt (by omega)]
  have e2 : ((nI n).toUInt32.toUInt16.toUInt32).toNat = n := by
    rw [UInt16.toNat_toUInt32, UInt32.toNat_toUInt16]
    show (nI n).toBitVec.toNat % 2 ^ 16 = n
    rw [e1, Nat.mod_eq_of_lt (by omega)]
  rw [e1]
  exact e2
end
section
/-- a private method of a class that the tables say can be made, by its rows of tables_1 -/
def lw_okq (q : MethodName × Nat) : Prop := (q.1.cls ≠ "java/lang/invoke/MethodHandle" ∧ q.1.cls ≠ "java/lang/invoke/VarHandle") ∧ Cond.instantiable q.1.cls q.2 ∈ tables_1 ∧ Cond.privateMethod q.1 ∈ tables_1 ∧ Cond.instanceMethod q.1 ∈ tables_1
theorem lw_p0 : lw_okq (⟨"NoonValley$Tape", "appendNumber", "(I)V"⟩, 3) := ⟨⟨by decide +kernel, by decide +kernel⟩, List.mem_of_getElem? (i := 31) (by decide +kernel), List.mem_of_getElem? (i := 408) (by decide +kernel), List.mem_of_getElem? (i := 409) (by decide +kernel)⟩
theorem lw_p1 : lw_okq (⟨"NoonValley$Tape", "skipBlanks", "()V"⟩, 3) := ⟨⟨by decide +kernel, by decide +kernel⟩, List.mem_of_getElem? (i := 31) (by decide +kernel), List.mem_of_getElem? (i := 435) (by decide +kernel), List.mem_of_getElem? (i := 436) (by decide +kernel)⟩
theorem lw_p2 : lw_okq (⟨"NoonValley$Tape", "at", "(I)I"⟩, 3) := ⟨⟨by decide +kernel, by decide +kernel⟩, List.mem_of_getElem? (i := 31) (by decide +kernel), List.mem_of_getElem? (i := 439) (by decide +kernel), List.mem_of_getElem? (i := 440) (by decide +kernel)⟩
theorem lw_p3 : lw_okq (⟨"NoonValley$Tape", "number", "(III)I"⟩, 3) := ⟨⟨by decide +kernel, by decide +kernel⟩, List.mem_of_getElem? (i := 31) (by decide +kernel), List.mem_of_getElem? (i := 443) (by decide +kernel), List.mem_of_getElem? (i := 444) (by decide +kernel)⟩
theorem lw_p4 : lw_okq (⟨"NoonValley$Tape", "isDigit", "(I)Z"⟩, 3) := ⟨⟨by decide +kernel, by decide +kernel⟩, List.mem_of_getElem? (i := 31) (by decide +kernel), List.mem_of_getElem? (i := 447) (by decide +kernel), List.mem_of_getElem? (i := 448) (by decide +kernel)⟩
theorem lw_p5 : lw_okq (⟨"NoonValley$Tape", "statement", "(LNoonValley$Valley;)Z"⟩, 3) := ⟨⟨by decide +kernel, by decide +kernel⟩, List.mem_of_getElem? (i := 31) (by decide +kernel), List.mem_of_getElem? (i := 451) (by decide +kernel), List.mem_of_getElem? (i := 452) (by decide +kernel)⟩
theorem lw_p6 : lw_okq (⟨"NoonValley$Tape", "lineOf", "(LNoonValley$Valley;I)Z"⟩, 3) := ⟨⟨by decide +kernel, by decide +kernel⟩, List.mem_of_getElem? (i := 31) (by decide +kernel), List.mem_of_getElem? (i := 455) (by decide +kernel), List.mem_of_getElem? (i := 456) (by decide +kernel)⟩
theorem lw_p7 : lw_okq (⟨"NoonValley$Tape", "newsOf", "(LNoonValley$Valley;[I)Z"⟩, 3) := ⟨⟨by decide +kernel, by decide +kernel⟩, List.mem_of_getElem? (i := 31) (by decide +kernel), List.mem_of_getElem? (i := 468) (by decide +kernel), List.mem_of_getElem? (i := 469) (by decide +kernel)⟩
theorem lw_p8 : lw_okq (⟨"NoonValley$Tape", "deafOne", "(LNoonValley$Valley;)Z"⟩, 3) := ⟨⟨by decide +kernel, by decide +kernel⟩, List.mem_of_getElem? (i := 31) (by decide +kernel), List.mem_of_getElem? (i := 472) (by decide +kernel), List.mem_of_getElem? (i := 473) (by decide +kernel)⟩
theorem lw_p9 : lw_okq (⟨"NoonValley$Valley", "lookAtLines", "()V"⟩, 16) := ⟨⟨by decide +kernel, by decide +kernel⟩, List.mem_of_getElem? (i := 267) (by decide +kernel), List.mem_of_getElem? (i := 490) (by decide +kernel), List.mem_of_getElem? (i := 491) (by decide +kernel)⟩
theorem lw_p10 : lw_okq (⟨"NoonValley", "valleyAt", "(I)LNoonValley$Valley;"⟩, 14) := ⟨⟨by decide +kernel, by decide +kernel⟩, List.mem_of_getElem? (i := 23) (by decide +kernel), List.mem_of_getElem? (i := 522) (by decide +kernel), List.mem_of_getElem? (i := 523) (by decide +kernel)⟩
theorem lw_p11 : lw_okq (⟨"NoonValley", "planAt", "(I)LNoonValley$Plan;"⟩, 14) := ⟨⟨by decide +kernel, by decide +kernel⟩, List.mem_of_getElem? (i := 23) (by decide +kernel), List.mem_of_getElem? (i := 611) (by decide +kernel), List.mem_of_getElem? (i := 612) (by decide +kernel)⟩
theorem lw_p12 : lw_okq (⟨"NoonValley$Carrying", "carry", "(LNoonValley$Plan;IJI)V"⟩, 5) := ⟨⟨by decide +kernel, by decide +kernel⟩, List.mem_of_getElem? (i := 53) (by decide +kernel), List.mem_of_getElem? (i := 654) (by decide +kernel), List.mem_of_getElem? (i := 655) (by decide +kernel)⟩
theorem lw_p13 : lw_okq (⟨"NoonValley$Carrying", "carryCall", "(LNoonValley$Plan;II)Z"⟩, 5) := ⟨⟨by decide +kernel, by decide +kernel⟩, List.mem_of_getElem? (i := 53) (by decide +kernel), List.mem_of_getElem? (i := 658) (by decide +kernel), List.mem_of_getElem? (i := 659) (by decide +kernel)⟩
theorem lw_p14 : lw_okq (⟨"NoonValley$Carrying", "shout", "(III)Z"⟩, 5) := ⟨⟨by decide +kernel, by decide +kernel⟩, List.mem_of_getElem? (i := 53) (by decide +kernel), List.mem_of_getElem? (i := 662) (by decide +kernel), List.mem_of_getElem? (i := 663) (by decide +kernel)⟩
theorem lw_p15 : lw_okq (⟨"NoonValley$Carrying", "tell", "(II)Z"⟩, 5) := ⟨⟨by decide +kernel, by decide +kernel⟩, List.mem_of_getElem? (i := 53) (by decide +kernel), List.mem_of_getElem? (i := 667) (by decide +kernel), List.mem_of_getElem? (i := 668) (by decide +kernel)⟩
def lw_privs_1 : List (MethodName × Nat) := [(⟨"NoonValley$Tape", "appendNumber", "(I)V"⟩, 3), (⟨"NoonValley$Tape", "skipBlanks", "()V"⟩, 3), (⟨"NoonValley$Tape", "at", "(I)I"⟩, 3), (⟨"NoonValley$Tape", "number", "(III)I"⟩, 3), (⟨"NoonValley$Tape", "isDigit", "(I)Z"⟩, 3), (⟨"NoonValley$Tape", "statement", "(LNoonValley$Valley;)Z"⟩, 3), (⟨"NoonValley$Tape", "lineOf", "(LNoonValley$Valley;I)Z"⟩, 3), (⟨"NoonValley$Tape", "newsOf", "(LNoonValley$Valley;[I)Z"⟩, 3), (⟨"NoonValley$Tape", "deafOne", "(LNoonValley$Valley;)Z"⟩, 3), (⟨"NoonValley$Valley", "lookAtLines", "()V"⟩, 16), (⟨"NoonValley", "valleyAt", "(I)LNoonValley$Valley;"⟩, 14), (⟨"NoonValley", "planAt", "(I)LNoonValley$Plan;"⟩, 14), (⟨"NoonValley$Carrying", "carry", "(LNoonValley$Plan;IJI)V"⟩, 5), (⟨"NoonValley$Carrying", "carryCall", "(LNoonValley$Plan;II)Z"⟩, 5), (⟨"NoonValley$Carrying", "shout", "(III)Z"⟩, 5), (⟨"NoonValley$Carrying", "tell", "(II)Z"⟩, 5)]
theorem lw_r1 : ∀ q ∈ lw_privs_1, lw_okq q := List.forall_mem_cons.mpr ⟨lw_p0, List.forall_mem_cons.mpr ⟨lw_p1, List.forall_mem_cons.mpr ⟨lw_p2, List.forall_mem_cons.mpr ⟨lw_p3, List.forall_mem_cons.mpr ⟨lw_p4, List.forall_mem_cons.mpr ⟨lw_p5, List.forall_mem_cons.mpr ⟨lw_p6, List.forall_mem_cons.mpr ⟨lw_p7, List.forall_mem_cons.mpr ⟨lw_p8, List.forall_mem_cons.mpr ⟨lw_p9, List.forall_mem_cons.mpr ⟨lw_p10, List.forall_mem_cons.mpr ⟨lw_p11, List.forall_mem_cons.mpr ⟨lw_p12, List.forall_mem_cons.mpr ⟨lw_p13, List.forall_mem_cons.mpr ⟨lw_p14, List.forall_mem_cons.mpr ⟨lw_p15, fun _ h => absurd h List.not_mem_nil⟩⟩⟩⟩⟩⟩⟩⟩⟩⟩⟩⟩⟩⟩⟩⟩
theorem lw_p16 : lw_okq (⟨"NoonValley$Spreading", "begin", "(II)V"⟩, 17) := ⟨⟨by decide +kernel, by decide +kernel⟩, List.mem_of_getElem? (i := 76) (by decide +kernel), List.mem_of_getElem? (i := 709) (by decide +kernel), List.mem_of_getElem? (i := 710) (by decide +kernel)⟩
theorem lw_p17 : lw_okq (⟨"NoonValley$Spreading", "arrive", "(II)V"⟩, 17) := ⟨⟨by decide +kernel, by decide +kernel⟩, List.mem_of_getElem? (i := 76) (by decide +kernel), List.mem_of_getElem? (i := 714) (by decide +kernel), List.mem_of_getElem? (i := 715) (by decide +kernel)⟩
theorem lw_p18 : lw_okq (⟨"NoonValley$Spreading", "placeOf", "(I)I"⟩, 17) := ⟨⟨by decide +kernel, by decide +kernel⟩, List.mem_of_getElem? (i := 76) (by decide +kernel), List.mem_of_getElem? (i := 718) (by decide +kernel), List.mem_of_getElem? (i := 719) (by decide +kernel)⟩
theorem lw_p19 : lw_okq (⟨"NoonValley$Spreading", "swap", "()V"⟩, 17) := ⟨⟨by decide +kernel, by decide +kernel⟩, List.mem_of_getElem? (i := 76) (by decide +kernel), List.mem_of_getElem? (i := 728) (by decide +kernel), List.mem_of_getElem? (i := 729) (by decide +kernel)⟩
theorem lw_p20 : lw_okq (⟨"NoonValley$Spreading", "isDone", "(I)Z"⟩, 17) := ⟨⟨by decide +kernel, by decide +kernel⟩, List.mem_of_getElem? (i := 76) (by decide +kernel), List.mem_of_getElem? (i := 732) (by decide +kernel), List.mem_of_getElem? (i := 733) (by decide +kernel)⟩
theorem lw_p21 : lw_okq (⟨"NoonValley$Spreading", "comeToBy", "(III)I"⟩, 17) := ⟨⟨by decide +kernel, by decide +kernel⟩, List.mem_of_getElem? (i := 76) (by decide +kernel), List.mem_of_getElem? (i := 736) (by decide +kernel), List.mem_of_getElem? (i := 737) (by decide +kernel)⟩
theorem lw_p22 : lw_okq (⟨"NoonValley$Spreading", "comeToAfter", "(II)I"⟩, 17) := ⟨⟨by decide +kernel, by decide +kernel⟩, List.mem_of_getElem? (i := 76) (by decide +kernel), List.mem_of_getElem? (i := 740) (by decide +kernel), List.mem_of_getElem? (i := 741) (by decide +kernel)⟩
theorem lw_p23 : lw_okq (⟨"NoonValley$Spreading", "findRows", "(III)V"⟩, 17) := ⟨⟨by decide +kernel, by decide +kernel⟩, List.mem_of_getElem? (i := 76) (by decide +kernel), List.mem_of_getElem? (i := 744) (by decide +kernel), List.mem_of_getElem? (i := 745) (by decide +kernel)⟩
theorem lw_p24 : lw_okq (⟨"NoonValley$Rows", "findAll", "(IIII)V"⟩, 6) := ⟨⟨by decide +kernel, by decide +kernel⟩, List.mem_of_getElem? (i := 82) (by decide +kernel), List.mem_of_getElem? (i := 756) (by decide +kernel), List.mem_of_getElem? (i := 757) (by decide +kernel)⟩
theorem lw_p25 : lw_okq (⟨"NoonValley$Rows", "take", "(III)V"⟩, 6) := ⟨⟨by decide +kernel, by decide +kernel⟩, List.mem_of_getElem? (i := 82) (by decide +kernel), List.mem_of_getElem? (i := 760) (by decide +kernel), List.mem_of_getElem? (i := 761) (by decide +kernel)⟩
theorem lw_p26 : lw_okq (⟨"NoonValley$Spreading", "arriveByAll", "(III)V"⟩, 17) := ⟨⟨by decide +kernel, by decide +kernel⟩, List.mem_of_getElem? (i := 76) (by decide +kernel), List.mem_of_getElem? (i := 766) (by decide +kernel), List.mem_of_getElem? (i := 767) (by decide +kernel)⟩
theorem lw_p27 : lw_okq (⟨"NoonValley$Spreading", "stateAfter", "(II)I"⟩, 17) := ⟨⟨by decide +kernel, by decide +kernel⟩, List.mem_of_getElem? (i := 76) (by decide +kernel), List.mem_of_getElem? (i := 770) (by decide +kernel), List.mem_of_getElem? (i := 771) (by decide +kernel)⟩
theorem lw_p28 : lw_okq (⟨"NoonValley$Spreading", "understands", "(I)I"⟩, 17) := ⟨⟨by decide +kernel, by decide +kernel⟩, List.mem_of_getElem? (i := 76) (by decide +kernel), List.mem_of_getElem? (i := 774) (by decide +kernel), List.mem_of_getElem? (i := 775) (by decide +kernel)⟩
theorem lw_p29 : lw_okq (⟨"NoonValley$Spreading", "isDoneInOne", "()Z"⟩, 17) := ⟨⟨by decide +kernel, by decide +kernel⟩, List.mem_of_getElem? (i := 76) (by decide +kernel), List.mem_of_getElem? (i := 778) (by decide +kernel), List.mem_of_getElem? (i := 779) (by decide +kernel)⟩
theorem lw_p30 : lw_okq (⟨"NoonValley$Spreading", "markGood", "(II)V"⟩, 17) := ⟨⟨by decide +kernel, by decide +kernel⟩, List.mem_of_getElem? (i := 76) (by decide +kernel), List.mem_of_getElem? (i := 791) (by decide +kernel), List.mem_of_getElem? (i := 792) (by decide +kernel)⟩
theorem lw_p31 : lw_okq (⟨"NoonValley$Spreading", "lowestGood", "(III)I"⟩, 17) := ⟨⟨by decide +kernel, by decide +kernel⟩, List.mem_of_getElem? (i := 76) (by decide +kernel), List.mem_of_getElem? (i := 795) (by decide +kernel), List.mem_of_getElem? (i := 796) (by decide +kernel)⟩
def lw_privs_2 : List (MethodName × Nat) := [(⟨"NoonValley$Spreading", "begin", "(II)V"⟩, 17), (⟨"NoonValley$Spreading", "arrive", "(II)V"⟩, 17), (⟨"NoonValley$Spreading", "placeOf", "(I)I"⟩, 17), (⟨"NoonValley$Spreading", "swap", "()V"⟩, 17), (⟨"NoonValley$Spreading", "isDone", "(I)Z"⟩, 17), (⟨"NoonValley$Spreading", "comeToBy", "(III)I"⟩, 17), (⟨"NoonValley$Spreading", "comeToAfter", "(II)I"⟩, 17), (⟨"NoonValley$Spreading", "findRows", "(III)V"⟩, 17), (⟨"NoonValley$Rows", "findAll", "(IIII)V"⟩, 6), (⟨"NoonValley$Rows", "take", "(III)V"⟩, 6), (⟨"NoonValley$Spreading", "arriveByAll", "(III)V"⟩, 17), (⟨"NoonValley$Spreading", "stateAfter", "(II)I"⟩, 17), (⟨"NoonValley$Spreading", "understands", "(I)I"⟩, 17), (⟨"NoonValley$Spreading", "isDoneInOne", "()Z"⟩, 17), (⟨"NoonValley$Spreading", "markGood", "(II)V"⟩, 17), (⟨"NoonValley$Spreading", "lowestGood", "(III)I"⟩, 17)]
theorem lw_r2 : ∀ q ∈ lw_privs_2, lw_okq q := List.forall_mem_cons.mpr ⟨lw_p16, List.forall_mem_cons.mpr ⟨lw_p17, List.forall_mem_cons.mpr ⟨lw_p18, List.forall_mem_cons.mpr ⟨lw_p19, List.forall_mem_cons.mpr ⟨lw_p20, List.forall_mem_cons.mpr ⟨lw_p21, List.forall_mem_cons.mpr ⟨lw_p22, List.forall_mem_cons.mpr ⟨lw_p23, List.forall_mem_cons.mpr ⟨lw_p24, List.forall_mem_cons.mpr ⟨lw_p25, List.forall_mem_cons.mpr ⟨lw_p26, List.forall_mem_cons.mpr ⟨lw_p27, List.forall_mem_cons.mpr ⟨lw_p28, List.forall_mem_cons.mpr ⟨lw_p29, List.forall_mem_cons.mpr ⟨lw_p30, List.forall_mem_cons.mpr ⟨lw_p31, fun _ h => absurd h List.not_mem_nil⟩⟩⟩⟩⟩⟩⟩⟩⟩⟩⟩⟩⟩⟩⟩⟩
theorem lw_p32 : lw_okq (⟨"NoonValley$Spreading", "hoursFromFirst", "(I)I"⟩, 17) := ⟨⟨by decide +kernel, by decide +kernel⟩, List.mem_of_getElem? (i := 76) (by decide +kernel), List.mem_of_getElem? (i := 843) (by decide +kernel), List.mem_of_getElem? (i := 844) (by decide +kernel)⟩
theorem lw_p33 : lw_okq (⟨"NoonValley$Spreading", "openLine", "(II)V"⟩, 17) := ⟨⟨by decide +kernel, by decide +kernel⟩, List.mem_of_getElem? (i := 76) (by decide +kernel), List.mem_of_getElem? (i := 851) (by decide +kernel), List.mem_of_getElem? (i := 852) (by decide +kernel)⟩
theorem lw_p34 : lw_okq (⟨"NoonValley$Shutting", "flood", "(IIII)I"⟩, 5) := ⟨⟨by decide +kernel, by decide +kernel⟩, List.mem_of_getElem? (i := 169) (by decide +kernel), List.mem_of_getElem? (i := 863) (by decide +kernel), List.mem_of_getElem? (i := 864) (by decide +kernel)⟩
theorem lw_p35 : lw_okq (⟨"NoonValley$Shutting", "across", "(II)I"⟩, 5) := ⟨⟨by decide +kernel, by decide +kernel⟩, List.mem_of_getElem? (i := 169) (by decide +kernel), List.mem_of_getElem? (i := 869) (by decide +kernel), List.mem_of_getElem? (i := 870) (by decide +kernel)⟩
theorem lw_p36 : lw_okq (⟨"NoonValley$Shutting", "choose", "(III)I"⟩, 5) := ⟨⟨by decide +kernel, by decide +kernel⟩, List.mem_of_getElem? (i := 169) (by decide +kernel), List.mem_of_getElem? (i := 876) (by decide +kernel), List.mem_of_getElem? (i := 877) (by decide +kernel)⟩
theorem lw_p37 : lw_okq (⟨"NoonValley$Gossip", "search", "(LNoonValley$Valley;)I"⟩, 3) := ⟨⟨by decide +kernel, by decide +kernel⟩, List.mem_of_getElem? (i := 191) (by decide +kernel), List.mem_of_getElem? (i := 888) (by decide +kernel), List.mem_of_getElem? (i := 889) (by decide +kernel)⟩
theorem lw_p38 : lw_okq (⟨"NoonValley$Gossip", "goOn", "(II)Z"⟩, 3) := ⟨⟨by decide +kernel, by decide +kernel⟩, List.mem_of_getElem? (i := 191) (by decide +kernel), List.mem_of_getElem? (i := 908) (by decide +kernel), List.mem_of_getElem? (i := 909) (by decide +kernel)⟩
theorem lw_p39 : lw_okq (⟨"NoonValley$Gossip", "canEnd", "(I)Z"⟩, 3) := ⟨⟨by decide +kernel, by decide +kernel⟩, List.mem_of_getElem? (i := 191) (by decide +kernel), List.mem_of_getElem? (i := 912) (by decide +kernel), List.mem_of_getElem? (i := 913) (by decide +kernel)⟩
theorem lw_p40 : lw_okq (⟨"NoonValley$Trade", "lookAtLines", "(LNoonValley$Valley;I)V"⟩, 3) := ⟨⟨by decide +kernel, by decide +kernel⟩, List.mem_of_getElem? (i := 207) (by decide +kernel), List.mem_of_getElem? (i := 944) (by decide +kernel), List.mem_of_getElem? (i := 945) (by decide +kernel)⟩
theorem lw_p41 : lw_okq (⟨"NoonValley$Trade", "goOn", "(II)V"⟩, 3) := ⟨⟨by decide +kernel, by decide +kernel⟩, List.mem_of_getElem? (i := 207) (by decide +kernel), List.mem_of_getElem? (i := 964) (by decide +kernel), List.mem_of_getElem? (i := 965) (by decide +kernel)⟩
theorem lw_p42 : lw_okq (⟨"NoonValley$Trade", "improve", "(II)V"⟩, 3) := ⟨⟨by decide +kernel, by decide +kernel⟩, List.mem_of_getElem? (i := 207) (by decide +kernel), List.mem_of_getElem? (i := 971) (by decide +kernel), List.mem_of_getElem? (i := 972) (by decide +kernel)⟩
theorem lw_p43 : lw_okq (⟨"NoonValley$Cards", "callOn", "(I)V"⟩, 7) := ⟨⟨by decide +kernel, by decide +kernel⟩, List.mem_of_getElem? (i := 225) (by decide +kernel), List.mem_of_getElem? (i := 1004) (by decide +kernel), List.mem_of_getElem? (i := 1005) (by decide +kernel)⟩
theorem lw_p44 : lw_okq (⟨"NoonValley$Cards", "timeOf", "(I)I"⟩, 7) := ⟨⟨by decide +kernel, by decide +kernel⟩, List.mem_of_getElem? (i := 225) (by decide +kernel), List.mem_of_getElem? (i := 1029) (by decide +kernel), List.mem_of_getElem? (i := 1030) (by decide +kernel)⟩
theorem lw_p45 : lw_okq (⟨"NoonValley$Cards", "slowest", "(I)I"⟩, 7) := ⟨⟨by decide +kernel, by decide +kernel⟩, List.mem_of_getElem? (i := 225) (by decide +kernel), List.mem_of_getElem? (i := 1033) (by decide +kernel), List.mem_of_getElem? (i := 1034) (by decide +kernel)⟩
theorem lw_p46 : lw_okq (⟨"NoonValley$Carrying", "bears", "(LNoonValley$Plan;JI)Z"⟩, 5) := ⟨⟨by decide +kernel, by decide +kernel⟩, List.mem_of_getElem? (i := 53) (by decide +kernel), List.mem_of_getElem? (i := 1050) (by decide +kernel), List.mem_of_getElem? (i := 1051) (by decide +kernel)⟩
theorem lw_p47 : lw_okq (⟨"NoonValley$Carrying", "findBreaking", "(LNoonValley$Plan;JII)Z"⟩, 5) := ⟨⟨by decide +kernel, by decide +kernel⟩, List.mem_of_getElem? (i := 53) (by decide +kernel), List.mem_of_getElem? (i := 1055) (by decide +kernel), List.mem_of_getElem? (i := 1056) (by decide +kernel)⟩
def lw_privs_3 : List (MethodName × Nat) := [(⟨"NoonValley$Spreading", "hoursFromFirst", "(I)I"⟩, 17), (⟨"NoonValley$Spreading", "openLine", "(II)V"⟩, 17), (⟨"NoonValley$Shutting", "flood", "(IIII)I"⟩, 5), (⟨"NoonValley$Shutting", "across", "(II)I"⟩, 5), (⟨"NoonValley$Shutting", "choose", "(III)I"⟩, 5), (⟨"NoonValley$Gossip", "search", "(LNoonValley$Valley;)I"⟩, 3), (⟨"NoonValley$Gossip", "goOn", "(II)Z"⟩, 3), (⟨"NoonValley$Gossip", "canEnd", "(I)Z"⟩, 3), (⟨"NoonValley$Trade", "lookAtLines", "(LNoonValley$Valley;I)V"⟩, 3), (⟨"NoonValley$Trade", "goOn", "(II)V"⟩, 3), (⟨"NoonValley$Trade", "improve", "(II)V"⟩, 3), (⟨"NoonValley$Cards", "callOn", "(I)V"⟩, 7), (⟨"NoonValley$Cards", "timeOf", "(I)I"⟩, 7), (⟨"NoonValley$Cards", "slowest", "(I)I"⟩, 7), (⟨"NoonValley$Carrying", "bears", "(LNoonValley$Plan;JI)Z"⟩, 5), (⟨"NoonValley$Carrying", "findBreaking", "(LNoonValley$Plan;JII)Z"⟩, 5)]
theorem lw_r3 : ∀ q ∈ lw_privs_3, lw_okq q := List.forall_mem_cons.mpr ⟨lw_p32, List.forall_mem_cons.mpr ⟨lw_p33, List.forall_mem_cons.mpr ⟨lw_p34, List.forall_mem_cons.mpr ⟨lw_p35, List.forall_mem_cons.mpr ⟨lw_p36, List.forall_mem_cons.mpr ⟨lw_p37, List.forall_mem_cons.mpr ⟨lw_p38, List.forall_mem_cons.mpr ⟨lw_p39, List.forall_mem_cons.mpr ⟨lw_p40, List.forall_mem_cons.mpr ⟨lw_p41, List.forall_mem_cons.mpr ⟨lw_p42, List.forall_mem_cons.mpr ⟨lw_p43, List.forall_mem_cons.mpr ⟨lw_p44, List.forall_mem_cons.mpr ⟨lw_p45, List.forall_mem_cons.mpr ⟨lw_p46, List.forall_mem_cons.mpr ⟨lw_p47, fun _ h => absurd h List.not_mem_nil⟩⟩⟩⟩⟩⟩⟩⟩⟩⟩⟩⟩⟩⟩⟩⟩
theorem lw_p48 : lw_okq (⟨"NoonValley$Chance", "goOn", "(II)V"⟩, 2) := ⟨⟨by decide +kernel, by decide +kernel⟩, List.mem_of_getElem? (i := 254) (by decide +kernel), List.mem_of_getElem? (i := 1084) (by decide +kernel), List.mem_of_getElem? (i := 1085) (by decide +kernel)⟩
theorem lw_p49 : lw_okq (⟨"NoonValley$Spreading", "spreadAsTold", "(IIII)V"⟩, 17) := ⟨⟨by decide +kernel, by decide +kernel⟩, List.mem_of_getElem? (i := 76) (by decide +kernel), List.mem_of_getElem? (i := 1137) (by decide +kernel), List.mem_of_getElem? (i := 1138) (by decide +kernel)⟩
theorem lw_p50 : lw_okq (⟨"java/lang/Throwable", "fillInStackTrace", "(I)Ljava/lang/Throwable;"⟩, 6) := ⟨⟨by decide +kernel, by decide +kernel⟩, List.mem_of_getElem? (i := 1198) (by decide +kernel), List.mem_of_getElem? (i := 1196) (by decide +kernel), List.mem_of_getElem? (i := 1197) (by decide +kernel)⟩
theorem lw_p51 : lw_okq (⟨"NoonValleyModel", "put", "(I)V"⟩, 64) := ⟨⟨by decide +kernel, by decide +kernel⟩, List.mem_of_getElem? (i := 1224) (by decide +kernel), List.mem_of_getElem? (i := 1433) (by decide +kernel), List.mem_of_getElem? (i := 1434) (by decide +kernel)⟩
theorem lw_p52 : lw_okq (⟨"NoonValleyModel", "readValley", "()Z"⟩, 64) := ⟨⟨by decide +kernel, by decide +kernel⟩, List.mem_of_getElem? (i := 1224) (by decide +kernel), List.mem_of_getElem? (i := 1445) (by decide +kernel), List.mem_of_getElem? (i := 1446) (by decide +kernel)⟩
theorem lw_p53 : lw_okq (⟨"NoonValleyModel", "look", "()I"⟩, 64) := ⟨⟨by decide +kernel, by decide +kernel⟩, List.mem_of_getElem? (i := 1224) (by decide +kernel), List.mem_of_getElem? (i := 1449) (by decide +kernel), List.mem_of_getElem? (i := 1450) (by decide +kernel)⟩
theorem lw_p54 : lw_okq (⟨"NoonValleyModel", "here", "()I"⟩, 64) := ⟨⟨by decide +kernel, by decide +kernel⟩, List.mem_of_getElem? (i := 1224) (by decide +kernel), List.mem_of_getElem? (i := 1453) (by decide +kernel), List.mem_of_getElem? (i := 1454) (by decide +kernel)⟩
theorem lw_p55 : lw_okq (⟨"NoonValleyModel", "fails", "(I)Z"⟩, 64) := ⟨⟨by decide +kernel, by decide +kernel⟩, List.mem_of_getElem? (i := 1224) (by decide +kernel), List.mem_of_getElem? (i := 1457) (by decide +kernel), List.mem_of_getElem? (i := 1458) (by decide +kernel)⟩
theorem lw_p56 : lw_okq (⟨"NoonValleyModel", "number", "(III)Z"⟩, 64) := ⟨⟨by decide +kernel, by decide +kernel⟩, List.mem_of_getElem? (i := 1224) (by decide +kernel), List.mem_of_getElem? (i := 1461) (by decide +kernel), List.mem_of_getElem? (i := 1462) (by decide +kernel)⟩
theorem lw_p57 : lw_okq (⟨"NoonValleyModel", "isDigit", "()Z"⟩, 64) := ⟨⟨by decide +kernel, by decide +kernel⟩, List.mem_of_getElem? (i := 1224) (by decide +kernel), List.mem_of_getElem? (i := 1465) (by decide +kernel), List.mem_of_getElem? (i := 1466) (by decide +kernel)⟩
theorem lw_p58 : lw_okq (⟨"NoonValleyModel", "statement", "(I)Z"⟩, 64) := ⟨⟨by decide +kernel, by decide +kernel⟩, List.mem_of_getElem? (i := 1224) (by decide +kernel), List.mem_of_getElem? (i := 1472) (by decide +kernel), List.mem_of_getElem? (i := 1473) (by decide +kernel)⟩
theorem lw_p59 : lw_okq (⟨"NoonValleyModel", "readLine", "(IZ)Z"⟩, 64) := ⟨⟨by decide +kernel, by decide +kernel⟩, List.mem_of_getElem? (i := 1224) (by decide +kernel), List.mem_of_getElem? (i := 1476) (by decide +kernel), List.mem_of_getElem? (i := 1477) (by decide +kernel)⟩
theorem lw_p60 : lw_okq (⟨"NoonValleyModel", "readBit", "(I[IZ)Z"⟩, 64) := ⟨⟨by decide +kernel, by decide +kernel⟩, List.mem_of_getElem? (i := 1224) (by decide +kernel), List.mem_of_getElem? (i := 1480) (by decide +kernel), List.mem_of_getElem? (i := 1481) (by decide +kernel)⟩
theorem lw_p61 : lw_okq (⟨"NoonValleyModel", "isValley", "(I)Z"⟩, 64) := ⟨⟨by decide +kernel, by decide +kernel⟩, List.mem_of_getElem? (i := 1224) (by decide +kernel), List.mem_of_getElem? (i := 1492) (by decide +kernel), List.mem_of_getElem? (i := 1493) (by decide +kernel)⟩
theorem lw_p62 : lw_okq (⟨"NoonValleyModel", "isLine", "(II)Z"⟩, 64) := ⟨⟨by decide +kernel, by decide +kernel⟩, List.mem_of_getElem? (i := 1224) (by decide +kernel), List.mem_of_getElem? (i := 1500) (by decide +kernel), List.mem_of_getElem? (i := 1501) (by decide +kernel)⟩
theorem lw_p63 : lw_okq (⟨"NoonValleyModel", "isPerson", "(II)Z"⟩, 64) := ⟨⟨by decide +kernel, by decide +kernel⟩, List.mem_of_getElem? (i := 1224) (by decide +kernel), List.mem_of_getElem? (i := 1515) (by decide +kernel), List.mem_of_getElem? (i := 1516) (by decide +kernel)⟩
def lw_privs_4 : List (MethodName × Nat) := [(⟨"NoonValley$Chance", "goOn", "(II)V"⟩, 2), (⟨"NoonValley$Spreading", "spreadAsTold", "(IIII)V"⟩, 17), (⟨"java/lang/Throwable", "fillInStackTrace", "(I)Ljava/lang/Throwable;"⟩, 6), (⟨"NoonValleyModel", "put", "(I)V"⟩, 64), (⟨"NoonValleyModel", "readValley", "()Z"⟩, 64), (⟨"NoonValleyModel", "look", "()I"⟩, 64), (⟨"NoonValleyModel", "here", "()I"⟩, 64), (⟨"NoonValleyModel", "fails", "(I)Z"⟩, 64), (⟨"NoonValleyModel", "number", "(III)Z"⟩, 64), (⟨"NoonValleyModel", "isDigit", "()Z"⟩, 64), (⟨"NoonValleyModel", "statement", "(I)Z"⟩, 64), (⟨"NoonValleyModel", "readLine", "(IZ)Z"⟩, 64), (⟨"NoonValleyModel", "readBit", "(I[IZ)Z"⟩, 64), (⟨"NoonValleyModel", "isValley", "(I)Z"⟩, 64), (⟨"NoonValleyModel", "isLine", "(II)Z"⟩, 64), (⟨"NoonValleyModel", "isPerson", "(II)Z"⟩, 64)]
theorem lw_r4 : ∀ q ∈ lw_privs_4, lw_okq q := List.forall_mem_cons.mpr ⟨lw_p48, List.forall_mem_cons.mpr ⟨lw_p49, List.forall_mem_cons.mpr ⟨lw_p50, List.forall_mem_cons.mpr ⟨lw_p51, List.forall_mem_cons.mpr ⟨lw_p52, List.forall_mem_cons.mpr ⟨lw_p53, List.forall_mem_cons.mpr ⟨lw_p54, List.forall_mem_cons.mpr ⟨lw_p55, List.forall_mem_cons.mpr ⟨lw_p56, List.forall_mem_cons.mpr ⟨lw_p57, List.forall_mem_cons.mpr ⟨lw_p58, List.forall_mem_cons.mpr ⟨lw_p59, List.forall_mem_cons.mpr ⟨lw_p60, List.forall_mem_cons.mpr ⟨lw_p61, List.forall_mem_cons.mpr ⟨lw_p62, List.forall_mem_cons.mpr ⟨lw_p63, fun _ h => absurd h List.not_mem_nil⟩⟩⟩⟩⟩⟩⟩⟩⟩⟩⟩⟩⟩⟩⟩⟩
theorem lw_p64 : lw_okq (⟨"NoonValleyModel", "mayCall", "(IIII)Z"⟩, 64) := ⟨⟨by decide +kernel, by decide +kernel⟩, List.mem_of_getElem? (i := 1224) (by decide +kernel), List.mem_of_getElem? (i := 1519) (by decide +kernel), List.mem_of_getElem? (i := 1520) (by decide +kernel)⟩
theorem lw_p65 : lw_okq (⟨"NoonValleyModel", "joins", "(III)Z"⟩, 64) := ⟨⟨by decide +kernel, by decide +kernel⟩, List.mem_of_getElem? (i := 1224) (by decide +kernel), List.mem_of_getElem? (i := 1523) (by decide +kernel), List.mem_of_getElem? (i := 1524) (by decide +kernel)⟩
theorem lw_p66 : lw_okq (⟨"NoonValleyModel", "works", "(II)Z"⟩, 64) := ⟨⟨by decide +kernel, by decide +kernel⟩, List.mem_of_getElem? (i := 1224) (by decide +kernel), List.mem_of_getElem? (i := 1527) (by decide +kernel), List.mem_of_getElem? (i := 1528) (by decide +kernel)⟩
theorem lw_p67 : lw_okq (⟨"NoonValleyModel", "isPlan", "(I)Z"⟩, 64) := ⟨⟨by decide +kernel, by decide +kernel⟩, List.mem_of_getElem? (i := 1224) (by decide +kernel), List.mem_of_getElem? (i := 1539) (by decide +kernel), List.mem_of_getElem? (i := 1540) (by decide +kernel)⟩
theorem lw_p68 : lw_okq (⟨"NoonValleyModel", "isCall", "(II)Z"⟩, 64) := ⟨⟨by decide +kernel, by decide +kernel⟩, List.mem_of_getElem? (i := 1224) (by decide +kernel), List.mem_of_getElem? (i := 1547) (by decide +kernel), List.mem_of_getElem? (i := 1548) (by decide +kernel)⟩
theorem lw_p69 : lw_okq (⟨"NoonValleyModel", "judge", "(I)V"⟩, 64) := ⟨⟨by decide +kernel, by decide +kernel⟩, List.mem_of_getElem? (i := 1224) (by decide +kernel), List.mem_of_getElem? (i := 1551) (by decide +kernel), List.mem_of_getElem? (i := 1552) (by decide +kernel)⟩
theorem lw_p70 : lw_okq (⟨"NoonValleyModel", "reaches", "(II)I"⟩, 64) := ⟨⟨by decide +kernel, by decide +kernel⟩, List.mem_of_getElem? (i := 1224) (by decide +kernel), List.mem_of_getElem? (i := 1555) (by decide +kernel), List.mem_of_getElem? (i := 1556) (by decide +kernel)⟩
theorem lw_p71 : lw_okq (⟨"NoonValleyModel", "carryAll", "(I)V"⟩, 64) := ⟨⟨by decide +kernel, by decide +kernel⟩, List.mem_of_getElem? (i := 1224) (by decide +kernel), List.mem_of_getElem? (i := 1567) (by decide +kernel), List.mem_of_getElem? (i := 1568) (by decide +kernel)⟩
theorem lw_p72 : lw_okq (⟨"NoonValleyModel", "carry", "(IJI)V"⟩, 64) := ⟨⟨by decide +kernel, by decide +kernel⟩, List.mem_of_getElem? (i := 1224) (by decide +kernel), List.mem_of_getElem? (i := 1571) (by decide +kernel), List.mem_of_getElem? (i := 1572) (by decide +kernel)⟩
theorem lw_p73 : lw_okq (⟨"NoonValleyModel", "tells", "(IIII)V"⟩, 64) := ⟨⟨by decide +kernel, by decide +kernel⟩, List.mem_of_getElem? (i := 1224) (by decide +kernel), List.mem_of_getElem? (i := 1575) (by decide +kernel), List.mem_of_getElem? (i := 1576) (by decide +kernel)⟩
theorem lw_p74 : lw_okq (⟨"NoonValleyModel", "notFor", "(II)I"⟩, 64) := ⟨⟨by decide +kernel, by decide +kernel⟩, List.mem_of_getElem? (i := 1224) (by decide +kernel), List.mem_of_getElem? (i := 1579) (by decide +kernel), List.mem_of_getElem? (i := 1580) (by decide +kernel)⟩
theorem lw_p75 : lw_okq (⟨"NoonValleyModel", "everybody", "(I)I"⟩, 64) := ⟨⟨by decide +kernel, by decide +kernel⟩, List.mem_of_getElem? (i := 1224) (by decide +kernel), List.mem_of_getElem? (i := 1587) (by decide +kernel), List.mem_of_getElem? (i := 1588) (by decide +kernel)⟩
theorem lw_p76 : lw_okq (⟨"NoonValleyModel", "allKnow", "(III)Z"⟩, 64) := ⟨⟨by decide +kernel, by decide +kernel⟩, List.mem_of_getElem? (i := 1224) (by decide +kernel), List.mem_of_getElem? (i := 1595) (by decide +kernel), List.mem_of_getElem? (i := 1596) (by decide +kernel)⟩
theorem lw_p77 : lw_okq (⟨"NoonValleyModel", "mustOf", "(II)I"⟩, 64) := ⟨⟨by decide +kernel, by decide +kernel⟩, List.mem_of_getElem? (i := 1224) (by decide +kernel), List.mem_of_getElem? (i := 1599) (by decide +kernel), List.mem_of_getElem? (i := 1600) (by decide +kernel)⟩
theorem lw_p78 : lw_okq (⟨"NoonValleyModel", "isAsked", "(II)Z"⟩, 64) := ⟨⟨by decide +kernel, by decide +kernel⟩, List.mem_of_getElem? (i := 1224) (by decide +kernel), List.mem_of_getElem? (i := 1607) (by decide +kernel), List.mem_of_getElem? (i := 1608) (by decide +kernel)⟩
theorem lw_p79 : lw_okq (⟨"NoonValleyModel", "leastFrom", "(III)I"⟩, 64) := ⟨⟨by decide +kernel, by decide +kernel⟩, List.mem_of_getElem? (i := 1224) (by decide +kernel), List.mem_of_getElem? (i := 1614) (by decide +kernel), List.mem_of_getElem? (i := 1615) (by decide +kernel)⟩
def lw_privs_5 : List (MethodName × Nat) := [(⟨"NoonValleyModel", "mayCall", "(IIII)Z"⟩, 64), (⟨"NoonValleyModel", "joins", "(III)Z"⟩, 64), (⟨"NoonValleyModel", "works", "(II)Z"⟩, 64), (⟨"NoonValleyModel", "isPlan", "(I)Z"⟩, 64), (⟨"NoonValleyModel", "isCall", "(II)Z"⟩, 64), (⟨"NoonValleyModel", "judge", "(I)V"⟩, 64), (⟨"NoonValleyModel", "reaches", "(II)I"⟩, 64), (⟨"NoonValleyModel", "carryAll", "(I)V"⟩, 64), (⟨"NoonValleyModel", "carry", "(IJI)V"⟩, 64), (⟨"NoonValleyModel", "tells", "(IIII)V"⟩, 64), (⟨"NoonValleyModel", "notFor", "(II)I"⟩, 64), (⟨"NoonValleyModel", "everybody", "(I)I"⟩, 64), (⟨"NoonValleyModel", "allKnow", "(III)Z"⟩, 64), (⟨"NoonValleyModel", "mustOf", "(II)I"⟩, 64), (⟨"NoonValleyModel", "isAsked", "(II)Z"⟩, 64), (⟨"NoonValleyModel", "leastFrom", "(III)I"⟩, 64)]
theorem lw_r5 : ∀ q ∈ lw_privs_5, lw_okq q := List.forall_mem_cons.mpr ⟨lw_p64, List.forall_mem_cons.mpr ⟨lw_p65, List.forall_mem_cons.mpr ⟨lw_p66, List.forall_mem_cons.mpr ⟨lw_p67, List.forall_mem_cons.mpr ⟨lw_p68, List.forall_mem_cons.mpr ⟨lw_p69, List.forall_mem_cons.mpr ⟨lw_p70, List.forall_mem_cons.mpr ⟨lw_p71, List.forall_mem_cons.mpr ⟨lw_p72, List.forall_mem_cons.mpr ⟨lw_p73, List.forall_mem_cons.mpr ⟨lw_p74, List.forall_mem_cons.mpr ⟨lw_p75, List.forall_mem_cons.mpr ⟨lw_p76, List.forall_mem_cons.mpr ⟨lw_p77, List.forall_mem_cons.mpr ⟨lw_p78, List.forall_mem_cons.mpr ⟨lw_p79, fun _ h => absurd h List.not_mem_nil⟩⟩⟩⟩⟩⟩⟩⟩⟩⟩⟩⟩⟩⟩⟩⟩
theorem lw_p80 : lw_okq (⟨"NoonValleyModel", "ask", "(II)V"⟩, 64) := ⟨⟨by decide +kernel, by decide +kernel⟩, List.mem_of_getElem? (i := 1224) (by decide +kernel), List.mem_of_getElem? (i := 1618) (by decide +kernel), List.mem_of_getElem? (i := 1619) (by decide +kernel)⟩
theorem lw_p81 : lw_okq (⟨"NoonValleyModel", "needed", "(III)I"⟩, 64) := ⟨⟨by decide +kernel, by decide +kernel⟩, List.mem_of_getElem? (i := 1224) (by decide +kernel), List.mem_of_getElem? (i := 1622) (by decide +kernel), List.mem_of_getElem? (i := 1623) (by decide +kernel)⟩
theorem lw_p82 : lw_okq (⟨"NoonValleyModel", "rowsLeast", "(III)I"⟩, 64) := ⟨⟨by decide +kernel, by decide +kernel⟩, List.mem_of_getElem? (i := 1224) (by decide +kernel), List.mem_of_getElem? (i := 1626) (by decide +kernel), List.mem_of_getElem? (i := 1627) (by decide +kernel)⟩
theorem lw_p83 : lw_okq (⟨"NoonValleyModel", "tryRow", "(IIIIII)I"⟩, 64) := ⟨⟨by decide +kernel, by decide +kernel⟩, List.mem_of_getElem? (i := 1224) (by decide +kernel), List.mem_of_getElem? (i := 1630) (by decide +kernel), List.mem_of_getElem? (i := 1631) (by decide +kernel)⟩
theorem lw_p84 : lw_okq (⟨"NoonValleyModel", "lowest", "(IIIIIII)Z"⟩, 64) := ⟨⟨by decide +kernel, by decide +kernel⟩, List.mem_of_getElem? (i := 1224) (by decide +kernel), List.mem_of_getElem? (i := 1639) (by decide +kernel), List.mem_of_getElem? (i := 1640) (by decide +kernel)⟩
theorem lw_p85 : lw_okq (⟨"NoonValleyModel", "hasLine", "(III)Z"⟩, 64) := ⟨⟨by decide +kernel, by decide +kernel⟩, List.mem_of_getElem? (i := 1224) (by decide +kernel), List.mem_of_getElem? (i := 1651) (by decide +kernel), List.mem_of_getElem? (i := 1652) (by decide +kernel)⟩
theorem lw_p86 : lw_okq (⟨"NoonValleyModel", "spread", "(IIIIII)I"⟩, 64) := ⟨⟨by decide +kernel, by decide +kernel⟩, List.mem_of_getElem? (i := 1224) (by decide +kernel), List.mem_of_getElem? (i := 1660) (by decide +kernel), List.mem_of_getElem? (i := 1661) (by decide +kernel)⟩
theorem lw_p87 : lw_okq (⟨"NoonValleyModel", "comesTo", "(IIIIII)Z"⟩, 64) := ⟨⟨by decide +kernel, by decide +kernel⟩, List.mem_of_getElem? (i := 1224) (by decide +kernel), List.mem_of_getElem? (i := 1668) (by decide +kernel), List.mem_of_getElem? (i := 1669) (by decide +kernel)⟩
theorem lw_p88 : lw_okq (⟨"NoonValleyModel", "fewestOf", "(I)I"⟩, 64) := ⟨⟨by decide +kernel, by decide +kernel⟩, List.mem_of_getElem? (i := 1224) (by decide +kernel), List.mem_of_getElem? (i := 1676) (by decide +kernel), List.mem_of_getElem? (i := 1677) (by decide +kernel)⟩
theorem lw_p89 : lw_okq (⟨"NoonValleyModel", "holdsAll", "(I)Z"⟩, 64) := ⟨⟨by decide +kernel, by decide +kernel⟩, List.mem_of_getElem? (i := 1224) (by decide +kernel), List.mem_of_getElem? (i := 1680) (by decide +kernel), List.mem_of_getElem? (i := 1681) (by decide +kernel)⟩
theorem lw_p90 : lw_okq (⟨"NoonValleyModel", "gossips", "(III)Z"⟩, 64) := ⟨⟨by decide +kernel, by decide +kernel⟩, List.mem_of_getElem? (i := 1224) (by decide +kernel), List.mem_of_getElem? (i := 1684) (by decide +kernel), List.mem_of_getElem? (i := 1685) (by decide +kernel)⟩
theorem lw_p91 : lw_okq (⟨"NoonValleyModel", "layTrades", "(I)V"⟩, 64) := ⟨⟨by decide +kernel, by decide +kernel⟩, List.mem_of_getElem? (i := 1224) (by decide +kernel), List.mem_of_getElem? (i := 1700) (by decide +kernel), List.mem_of_getElem? (i := 1701) (by decide +kernel)⟩
theorem lw_p92 : lw_okq (⟨"NoonValleyModel", "mayTrade", "(IIII)Z"⟩, 64) := ⟨⟨by decide +kernel, by decide +kernel⟩, List.mem_of_getElem? (i := 1224) (by decide +kernel), List.mem_of_getElem? (i := 1704) (by decide +kernel), List.mem_of_getElem? (i := 1705) (by decide +kernel)⟩
theorem lw_p93 : lw_okq (⟨"NoonValleyModel", "meet", "(II)V"⟩, 64) := ⟨⟨by decide +kernel, by decide +kernel⟩, List.mem_of_getElem? (i := 1224) (by decide +kernel), List.mem_of_getElem? (i := 1711) (by decide +kernel), List.mem_of_getElem? (i := 1712) (by decide +kernel)⟩
theorem lw_p94 : lw_okq (⟨"NoonValleyModel", "isTree", "(I)Z"⟩, 64) := ⟨⟨by decide +kernel, by decide +kernel⟩, List.mem_of_getElem? (i := 1224) (by decide +kernel), List.mem_of_getElem? (i := 1731) (by decide +kernel), List.mem_of_getElem? (i := 1732) (by decide +kernel)⟩
theorem lw_p95 : lw_okq (⟨"NoonValleyModel", "layTree", "(III)V"⟩, 64) := ⟨⟨by decide +kernel, by decide +kernel⟩, List.mem_of_getElem? (i := 1224) (by decide +kernel), List.mem_of_getElem? (i := 1735) (by decide +kernel), List.mem_of_getElem? (i := 1736) (by decide +kernel)⟩
def lw_privs_6 : List (MethodName × Nat) := [(⟨"NoonValleyModel", "ask", "(II)V"⟩, 64), (⟨"NoonValleyModel", "needed", "(III)I"⟩, 64), (⟨"NoonValleyModel", "rowsLeast", "(III)I"⟩, 64), (⟨"NoonValleyModel", "tryRow", "(IIIIII)I"⟩, 64), (⟨"NoonValleyModel", "lowest", "(IIIIIII)Z"⟩, 64), (⟨"NoonValleyModel", "hasLine", "(III)Z"⟩, 64), (⟨"NoonValleyModel", "spread", "(IIIIII)I"⟩, 64), (⟨"NoonValleyModel", "comesTo", "(IIIIII)Z"⟩, 64), (⟨"NoonValleyModel", "fewestOf", "(I)I"⟩, 64), (⟨"NoonValleyModel", "holdsAll", "(I)Z"⟩, 64), (⟨"NoonValleyModel", "gossips", "(III)Z"⟩, 64), (⟨"NoonValleyModel", "layTrades", "(I)V"⟩, 64), (⟨"NoonValleyModel", "mayTrade", "(IIII)Z"⟩, 64), (⟨"NoonValleyModel", "meet", "(II)V"⟩, 64), (⟨"NoonValleyModel", "isTree", "(I)Z"⟩, 64), (⟨"NoonValleyModel", "layTree", "(III)V"⟩, 64)]
theorem lw_r6 : ∀ q ∈ lw_privs_6, lw_okq q := List.forall_mem_cons.mpr ⟨lw_p80, List.forall_mem_cons.mpr ⟨lw_p81, List.forall_mem_cons.mpr ⟨lw_p82, List.forall_mem_cons.mpr ⟨lw_p83, List.forall_mem_cons.mpr ⟨lw_p84, List.forall_mem_cons.mpr ⟨lw_p85, List.forall_mem_cons.mpr ⟨lw_p86, List.forall_mem_cons.mpr ⟨lw_p87, List.forall_mem_cons.mpr ⟨lw_p88, List.forall_mem_cons.mpr ⟨lw_p89, List.forall_mem_cons.mpr ⟨lw_p90, List.forall_mem_cons.mpr ⟨lw_p91, List.forall_mem_cons.mpr ⟨lw_p92, List.forall_mem_cons.mpr ⟨lw_p93, List.forall_mem_cons.mpr ⟨lw_p94, List.forall_mem_cons.mpr ⟨lw_p95, fun _ h => absurd h List.not_mem_nil⟩⟩⟩⟩⟩⟩⟩⟩⟩⟩⟩⟩⟩⟩⟩⟩
theorem lw_p96 : lw_okq (⟨"NoonValleyModel", "isBeside", "(III)Z"⟩, 64) := ⟨⟨by decide +kernel, by decide +kernel⟩, List.mem_of_getElem? (i := 1224) (by decide +kernel), List.mem_of_getElem? (i := 1739) (by decide +kernel), List.mem_of_getElem? (i := 1740) (by decide +kernel)⟩
theorem lw_p97 : lw_okq (⟨"NoonValleyModel", "breaksBy", "(IIIIJ)Z"⟩, 64) := ⟨⟨by decide +kernel, by decide +kernel⟩, List.mem_of_getElem? (i := 1224) (by decide +kernel), List.mem_of_getElem? (i := 1748) (by decide +kernel), List.mem_of_getElem? (i := 1749) (by decide +kernel)⟩
theorem lw_p98 : lw_okq (⟨"NoonValleyModel", "bears", "(IJI)Z"⟩, 64) := ⟨⟨by decide +kernel, by decide +kernel⟩, List.mem_of_getElem? (i := 1224) (by decide +kernel), List.mem_of_getElem? (i := 1752) (by decide +kernel), List.mem_of_getElem? (i := 1753) (by decide +kernel)⟩
theorem lw_p99 : lw_okq (⟨"NoonValleyModel", "choose", "(IIIIJ)V"⟩, 64) := ⟨⟨by decide +kernel, by decide +kernel⟩, List.mem_of_getElem? (i := 1224) (by decide +kernel), List.mem_of_getElem? (i := 1765) (by decide +kernel), List.mem_of_getElem? (i := 1766) (by decide +kernel)⟩
theorem lw_p100 : lw_okq (⟨"NoonValleyModel", "canBegin", "(III)Z"⟩, 64) := ⟨⟨by decide +kernel, by decide +kernel⟩, List.mem_of_getElem? (i := 1224) (by decide +kernel), List.mem_of_getElem? (i := 1783) (by decide +kernel), List.mem_of_getElem? (i := 1784) (by decide +kernel)⟩
theorem lw_p101 : lw_okq (⟨"NoonValleyModel", "isAsTold", "(IIII)Z"⟩, 64) := ⟨⟨by decide +kernel, by decide +kernel⟩, List.mem_of_getElem? (i := 1224) (by decide +kernel), List.mem_of_getElem? (i := 1787) (by decide +kernel), List.mem_of_getElem? (i := 1788) (by decide +kernel)⟩
theorem lw_p102 : lw_okq (⟨"NoonValleyModel", "taleOf", "(III)I"⟩, 64) := ⟨⟨by decide +kernel, by decide +kernel⟩, List.mem_of_getElem? (i := 1224) (by decide +kernel), List.mem_of_getElem? (i := 1791) (by decide +kernel), List.mem_of_getElem? (i := 1792) (by decide +kernel)⟩
theorem lw_p103 : lw_okq (⟨"NoonValleyModel", "goRows", "(IIIIIIII)V"⟩, 64) := ⟨⟨by decide +kernel, by decide +kernel⟩, List.mem_of_getElem? (i := 1224) (by decide +kernel), List.mem_of_getElem? (i := 1795) (by decide +kernel), List.mem_of_getElem? (i := 1796) (by decide +kernel)⟩
def lw_privs_7 : List (MethodName × Nat) := [(⟨"NoonValleyModel", "isBeside", "(III)Z"⟩, 64), (⟨"NoonValleyModel", "breaksBy", "(IIIIJ)Z"⟩, 64), (⟨"NoonValleyModel", "bears", "(IJI)Z"⟩, 64), (⟨"NoonValleyModel", "choose", "(IIIIJ)V"⟩, 64), (⟨"NoonValleyModel", "canBegin", "(III)Z"⟩, 64), (⟨"NoonValleyModel", "isAsTold", "(IIII)Z"⟩, 64), (⟨"NoonValleyModel", "taleOf", "(III)I"⟩, 64), (⟨"NoonValleyModel", "goRows", "(IIIIIIII)V"⟩, 64)]
theorem lw_r7 : ∀ q ∈ lw_privs_7, lw_okq q := List.forall_mem_cons.mpr ⟨lw_p96, List.forall_mem_cons.mpr ⟨lw_p97, List.forall_mem_cons.mpr ⟨lw_p98, List.forall_mem_cons.mpr ⟨lw_p99, List.forall_mem_cons.mpr ⟨lw_p100, List.forall_mem_cons.mpr ⟨lw_p101, List.forall_mem_cons.mpr ⟨lw_p102, List.forall_mem_cons.mpr ⟨lw_p103, fun _ h => absurd h List.not_mem_nil⟩⟩⟩⟩⟩⟩⟩⟩
def lw_privs : List (MethodName × Nat) := lw_privs_1 ++ (lw_privs_2 ++ (lw_privs_3 ++ (lw_privs_4 ++ (lw_privs_5 ++ (lw_privs_6 ++ (lw_privs_7))))))
def lw_tbl : List Cond := k2_sels lw_privs ++ tables_1
theorem lw_privs_ok : ∀ q ∈ lw_privs, lw_okq q := by
  show ∀ q ∈ lw_privs_1 ++ (lw_privs_2 ++ (lw_privs_3 ++ (lw_privs_4 ++ (lw_privs_5 ++ (lw_privs_6 ++ (lw_privs_7)))))), lw_okq q
  exact List.forall_mem_append.mpr ⟨lw_r1, List.forall_mem_append.mpr ⟨lw_r2, List.forall_mem_append.mpr ⟨lw_r3, List.forall_mem_append.mpr ⟨lw_r4, List.forall_mem_append.mpr ⟨lw_r5, List.forall_mem_append.mpr ⟨lw_r6, lw_r7⟩⟩⟩⟩⟩⟩
def RX0 : String := "NoonValley$Cards"
def TX0 : u_T := fun k => match k with
  | 0 => ("NoonValley$Cards", "valley", "LNoonValley$Valley;", false)
  | 1 => ("NoonValley$Cards", "known", "I", false)
  | 2 => ("NoonValley$Cards", "once", "I", false)
  | 3 => ("NoonValley$Cards", "called", "[I", true)
  | 4 => ("NoonValley$Cards", "time", "[I", true)
  | 5 => ("NoonValley$Cards", "children", "[I", true)
  | _ => ("NoonValley$Cards", "order", "[I", true)
def tyX0 : Nat → FieldType := fun k => match k with
  | 0 => .object "NoonValley$Valley"
  | 1 => .int
  | 2 => .int
  | 3 => .array .int
  | 4 => .array .int
  | 5 => .array .int
  | _ => .array .int
abbrev wsX00 : List Cond := u_ws RX0 TX0 7
theorem nmX0 : ∀ a, a < 7 → ∀ b, b < 7 → a ≠ b → (TX0 a).2.1 ≠ (TX0 b).2.1 := by decide +kernel
theorem tyX0_ok : ∀ k, k < 7 → parseFieldDescriptor (TX0 k).2.2.1 = some (tyX0 k) := by decide +kernel
abbrev cX0_init : ByteArray := prog_2_method_1_code
def yX0_init : MethodName := ⟨RX0, "<init>", "()V"⟩
abbrev cX0_hoursTillAllKnow : ByteArray := prog_2_method_2_code
def yX0_hoursTillAllKnow : MethodName := ⟨RX0, "hoursTillAllKnow", "(LNoonValley$Valley;I)I"⟩
abbrev cX0_callOn : ByteArray := prog_2_method_3_code
def yX0_callOn : MethodName := ⟨RX0, "callOn", "(I)V"⟩
abbrev cX0_growTree : ByteArray := prog_2_method_4_code
def yX0_growTree : MethodName := ⟨RX0, "growTree", "(LNoonValley$Valley;I)Z"⟩
abbrev cX0_timeOf : ByteArray := prog_2_method_5_code
def yX0_timeOf : MethodName := ⟨RX0, "timeOf", "(I)I"⟩
abbrev cX0_below : ByteArray := prog_2_method_6_code
def yX0_below : MethodName := ⟨RX0, "below", "(II)I"⟩
abbrev cX0_slowest : ByteArray := prog_2_method_7_code
def yX0_slowest : MethodName := ⟨RX0, "slowest", "(I)I"⟩
def RX1 : String := "NoonValley$Carrying"
def TX1 : u_T := fun k => match k with
  | 0 => ("NoonValley$Carrying", "known", "[I", true)
  | 1 => ("NoonValley$Carrying", "toldOnce", "[I", true)
  | 2 => ("NoonValley$Carrying", "deaf", "I", false)
  | 3 => ("NoonValley$Carrying", "useful", "J", false)
  | _ => ("NoonValley$Carrying", "breaking", "J", false)
def tyX1 : Nat → FieldType := fun k => match k with
  | 0 => .array .int
  | 1 => .array .int
  | 2 => .int
  | 3 => .long
  | _ => .long
abbrev wsX10 : List Cond := u_ws RX1 TX1 5
theorem nmX1 : ∀ a, a < 5 → ∀ b, b < 5 → a ≠ b → (TX1 a).2.1 ≠ (TX1 b).2.1 := by decide +kernel
theorem tyX1_ok : ∀ k, k < 5 → parseFieldDescriptor (TX1 k).2.2.1 = some (tyX1 k) := by decide +kernel
abbrev cX1_init : ByteArray := prog_3_method_1_code
def yX1_init : MethodName := ⟨RX1, "<init>", "()V"⟩
abbrev cX1_carryAll : ByteArray := prog_3_method_2_code
def yX1_carryAll : MethodName := ⟨RX1, "carryAll", "(LNoonValley$Plan;I)V"⟩
abbrev cX1_carry : ByteArray := prog_3_method_3_code
def yX1_carry : MethodName := ⟨RX1, "carry", "(LNoonValley$Plan;IJI)V"⟩
abbrev cX1_carryCall : ByteArray := prog_3_method_4_code
def yX1_carryCall : MethodName := ⟨RX1, "carryCall", "(LNoonValley$Plan;II)Z"⟩
abbrev cX1_shout : ByteArray := prog_3_method_5_code
def yX1_shout : MethodName := ⟨RX1, "shout", "(III)Z"⟩
abbrev cX1_tell : ByteArray := prog_3_method_6_code
def yX1_tell : MethodName := ⟨RX1, "tell", "(II)Z"⟩
abbrev cX1_whoKnows : ByteArray := prog_3_method_7_code
def yX1_whoKnows : MethodName := ⟨RX1, "whoKnows", "(I)I"⟩
abbrev cX1_whoIsToldOnce : ByteArray := prog_3_method_8_code
def yX1_whoIsToldOnce : MethodName := ⟨RX1, "whoIsToldOnce", "(I)I"⟩
abbrev cX1_peopleOfNews : ByteArray := prog_3_method_9_code
def yX1_peopleOfNews : MethodName := ⟨RX1, "peopleOfNews", "([II)I"⟩
abbrev cX1_isBroken : ByteArray := prog_3_method_10_code
def yX1_isBroken : MethodName := ⟨RX1, "isBroken", "(LNoonValley$Valley;)Z"⟩
abbrev cX1_isDone : ByteArray := prog_3_method_11_code
def yX1_isDone : MethodName := ⟨RX1, "isDone", "(LNoonValley$Valley;I)Z"⟩
abbrev cX1_bears : ByteArray := prog_3_method_12_code
def yX1_bears : MethodName := ⟨RX1, "bears", "(LNoonValley$Plan;JI)Z"⟩
abbrev cX1_fewestToBreak : ByteArray := prog_3_method_13_code
def yX1_fewestToBreak : MethodName := ⟨RX1, "fewestToBreak", "(LNoonValley$Plan;)I"⟩
abbrev cX1_findBreaking : ByteArray := prog_3_method_14_code
def yX1_findBreaking : MethodName := ⟨RX1, "findBreaking", "(LNoonValley$Plan;JII)Z"⟩
abbrev cX1_breakingCall : ByteArray := prog_3_method_15_code
def yX1_breakingCall : MethodName := ⟨RX1, "breakingCall", "(I)I"⟩
abbrev cX1_lowestBreaker : ByteArray := prog_3_method_16_code
def yX1_lowestBreaker : MethodName := ⟨RX1, "lowestBreaker", "(LNoonValley$Plan;)I"⟩
def RX2 : String := "NoonValley$Chance"
def TX2 : u_T := fun k => match k with
  | 0 => ("NoonValley$Chance", "now", "[J", false)
  | _ => ("NoonValley$Chance", "next", "[J", false)
def tyX2 : Nat → FieldType := fun k => match k with
  | 0 => .array .long
  | _ => .array .long
abbrev wsX20 : List Cond := u_ws RX2 TX2 2
theorem nmX2 : ∀ a, a < 2 → ∀ b, b < 2 → a ≠ b → (TX2 a).2.1 ≠ (TX2 b).2.1 := by decide +kernel
theorem tyX2_ok : ∀ k, k < 2 → parseFieldDescriptor (TX2 k).2.2.1 = some (tyX2 k) := by decide +kernel
abbrev cX2_init : ByteArray := prog_4_method_1_code
def yX2_init : MethodName := ⟨RX2, "<init>", "()V"⟩
abbrev cX2_countWays : ByteArray := prog_4_method_2_code
def yX2_countWays : MethodName := ⟨RX2, "countWays", "(III)J"⟩
abbrev cX2_goOn : ByteArray := prog_4_method_3_code
def yX2_goOn : MethodName := ⟨RX2, "goOn", "(II)V"⟩
abbrev cX2_power : ByteArray := prog_4_method_4_code
def yX2_power : MethodName := ⟨RX2, "power", "(II)J"⟩
abbrev cX2_other : ByteArray := prog_4_method_5_code
def yX2_other : MethodName := ⟨RX2, "other", "(II)I"⟩
abbrev cX2_drawHours : ByteArray := prog_4_method_6_code
def yX2_drawHours : MethodName := ⟨RX2, "drawHours", "(IIJ)I"⟩
def RX3 : String := "NoonValley$Gossip"
def TX3 : u_T := fun k => match k with
  | 0 => ("NoonValley$Gossip", "valley", "LNoonValley$Valley;", false)
  | 1 => ("NoonValley$Gossip", "all", "I", false)
  | _ => ("NoonValley$Gossip", "knows", "[I", true)
def tyX3 : Nat → FieldType := fun k => match k with
  | 0 => .object "NoonValley$Valley"
  | 1 => .int
  | _ => .array .int
abbrev wsX30 : List Cond := u_ws RX3 TX3 3
theorem nmX3 : ∀ a, a < 3 → ∀ b, b < 3 → a ≠ b → (TX3 a).2.1 ≠ (TX3 b).2.1 := by decide +kernel
theorem tyX3_ok : ∀ k, k < 3 → parseFieldDescriptor (TX3 k).2.2.1 = some (tyX3 k) := by decide +kernel
abbrev cX3_init : ByteArray := prog_5_method_1_code
def yX3_init : MethodName := ⟨RX3, "<init>", "()V"⟩
abbrev cX3_lowerEnd : ByteArray := prog_5_method_2_code
def yX3_lowerEnd : MethodName := ⟨RX3, "lowerEnd", "(I)I"⟩
abbrev cX3_upperEnd : ByteArray := prog_5_method_3_code
def yX3_upperEnd : MethodName := ⟨RX3, "upperEnd", "(I)I"⟩
abbrev cX3_fewestCalls : ByteArray := prog_5_method_4_code
def yX3_fewestCalls : MethodName := ⟨RX3, "fewestCalls", "(LNoonValley$Valley;)I"⟩
abbrev cX3_search : ByteArray := prog_5_method_5_code
def yX3_search : MethodName := ⟨RX3, "search", "(LNoonValley$Valley;)I"⟩
abbrev cX3_goOn : ByteArray := prog_5_method_6_code
def yX3_goOn : MethodName := ⟨RX3, "goOn", "(II)Z"⟩
abbrev cX3_canEnd : ByteArray := prog_5_method_7_code
def yX3_canEnd : MethodName := ⟨RX3, "canEnd", "(I)Z"⟩
def RX4 : String := "NoonValley$Plan"
def TX4 : u_T := fun k => match k with
  | 0 => ("NoonValley$Plan", "valley", "LNoonValley$Valley;", true)
  | 1 => ("NoonValley$Plan", "count", "I", false)
  | 2 => ("NoonValley$Plan", "hours", "[I", true)
  | 3 => ("NoonValley$Plan", "kinds", "[I", true)
  | 4 => ("NoonValley$Plan", "callers", "[I", true)
  | 5 => ("NoonValley$Plan", "called", "[I", true)
  | 6 => ("NoonValley$Plan", "order", "[I", true)
  | 7 => ("NoonValley$Plan", "verdict", "[I", true)
  | _ => ("NoonValley$Plan", "others", "[I", true)
def tyX4 : Nat → FieldType := fun k => match k with
  | 0 => .object "NoonValley$Valley"
  | 1 => .int
  | 2 => .array .int
  | 3 => .array .int
  | 4 => .array .int
  | 5 => .array .int
  | 6 => .array .int
  | 7 => .array .int
  | _ => .array .int
abbrev wsX40 : List Cond := u_ws RX4 TX4 9
theorem nmX4 : ∀ a, a < 9 → ∀ b, b < 9 → a ≠ b → (TX4 a).2.1 ≠ (TX4 b).2.1 := by decide +kernel
theorem tyX4_ok : ∀ k, k < 9 → parseFieldDescriptor (TX4 k).2.2.1 = some (tyX4 k) := by decide +kernel
abbrev cX4_init : ByteArray := prog_6_method_1_code
def yX4_init : MethodName := ⟨RX4, "<init>", "(LNoonValley$Valley;)V"⟩
abbrev cX4_hasRoom : ByteArray := prog_6_method_2_code
def yX4_hasRoom : MethodName := ⟨RX4, "hasRoom", "()Z"⟩
abbrev cX4_append : ByteArray := prog_6_method_3_code
def yX4_append : MethodName := ⟨RX4, "append", "(IIII)I"⟩
abbrev cX4_judge : ByteArray := prog_6_method_4_code
def yX4_judge : MethodName := ⟨RX4, "judge", "()V"⟩
abbrev cX4_verdictOf : ByteArray := prog_6_method_5_code
def yX4_verdictOf : MethodName := ⟨RX4, "verdictOf", "(III)I"⟩
def RX5 : String := "NoonValley$Rows"
def TX5 : u_T := fun k => match k with
  | 0 => ("NoonValley$Rows", "sets", "[I", true)
  | 1 => ("NoonValley$Rows", "rows", "[I", true)
  | 2 => ("NoonValley$Rows", "met", "[Z", true)
  | 3 => ("NoonValley$Rows", "count", "I", false)
  | 4 => ("NoonValley$Rows", "choices", "[I", true)
  | _ => ("NoonValley$Rows", "people", "I", false)
def tyX5 : Nat → FieldType := fun k => match k with
  | 0 => .array .int
  | 1 => .array .int
  | 2 => .array .boolean
  | 3 => .int
  | 4 => .array .int
  | _ => .int
abbrev wsX50 : List Cond := u_ws RX5 TX5 6
theorem nmX5 : ∀ a, a < 6 → ∀ b, b < 6 → a ≠ b → (TX5 a).2.1 ≠ (TX5 b).2.1 := by decide +kernel
theorem tyX5_ok : ∀ k, k < 6 → parseFieldDescriptor (TX5 k).2.2.1 = some (tyX5 k) := by decide +kernel
abbrev cX5_init : ByteArray := prog_7_method_1_code
def yX5_init : MethodName := ⟨RX5, "<init>", "()V"⟩
abbrev cX5_calledIn : ByteArray := prog_7_method_2_code
def yX5_calledIn : MethodName := ⟨RX5, "calledIn", "(II)I"⟩
abbrev cX5_forget : ByteArray := prog_7_method_3_code
def yX5_forget : MethodName := ⟨RX5, "forget", "()V"⟩
abbrev cX5_append : ByteArray := prog_7_method_4_code
def yX5_append : MethodName := ⟨RX5, "append", "(I)V"⟩
abbrev cX5_findAll : ByteArray := prog_7_method_5_code
def yX5_findAll : MethodName := ⟨RX5, "findAll", "(IIII)V"⟩
abbrev cX5_take : ByteArray := prog_7_method_6_code
def yX5_take : MethodName := ⟨RX5, "take", "(III)V"⟩
def RX6 : String := "NoonValley$Shutting"
def TX6 : u_T := fun k => match k with
  | 0 => ("NoonValley$Shutting", "valley", "LNoonValley$Valley;", false)
  | 1 => ("NoonValley$Shutting", "goal", "I", false)
  | 2 => ("NoonValley$Shutting", "hour", "I", false)
  | 3 => ("NoonValley$Shutting", "before", "I", false)
  | _ => ("NoonValley$Shutting", "used", "I", false)
def tyX6 : Nat → FieldType := fun k => match k with
  | 0 => .object "NoonValley$Valley"
  | 1 => .int
  | 2 => .int
  | 3 => .int
  | _ => .int
abbrev wsX60 : List Cond := u_ws RX6 TX6 5
theorem nmX6 : ∀ a, a < 5 → ∀ b, b < 5 → a ≠ b → (TX6 a).2.1 ≠ (TX6 b).2.1 := by decide +kernel
theorem tyX6_ok : ∀ k, k < 5 → parseFieldDescriptor (TX6 k).2.2.1 = some (tyX6 k) := by decide +kernel
abbrev cX6_init : ByteArray := prog_8_method_1_code
def yX6_init : MethodName := ⟨RX6, "<init>", "()V"⟩
abbrev cX6_fewestLines : ByteArray := prog_8_method_2_code
def yX6_fewestLines : MethodName := ⟨RX6, "fewestLines", "(LNoonValley$Valley;III)I"⟩
abbrev cX6_choose : ByteArray := prog_8_method_3_code
def yX6_choose : MethodName := ⟨RX6, "choose", "(III)I"⟩
abbrev cX6_flood : ByteArray := prog_8_method_4_code
def yX6_flood : MethodName := ⟨RX6, "flood", "(IIII)I"⟩
abbrev cX6_across : ByteArray := prog_8_method_5_code
def yX6_across : MethodName := ⟨RX6, "across", "(II)I"⟩
def RX7 : String := "NoonValley$Spreading"
def TX7 : u_T := fun k => match k with
  | 0 => ("NoonValley$Spreading", "rows", "LNoonValley$Rows;", true)
  | 1 => ("NoonValley$Spreading", "people", "I", false)
  | 2 => ("NoonValley$Spreading", "deaf", "I", false)
  | 3 => ("NoonValley$Spreading", "takingPart", "I", false)
  | 4 => ("NoonValley$Spreading", "must", "I", false)
  | 5 => ("NoonValley$Spreading", "callable", "[I", true)
  | 6 => ("NoonValley$Spreading", "powers", "[I", true)
  | 7 => ("NoonValley$Spreading", "stateAt", "[I", true)
  | 8 => ("NoonValley$Spreading", "comeTo", "[I", true)
  | 9 => ("NoonValley$Spreading", "good", "[I", true)
  | 10 => ("NoonValley$Spreading", "now", "[I", false)
  | 11 => ("NoonValley$Spreading", "next", "[I", false)
  | 12 => ("NoonValley$Spreading", "nowCount", "I", false)
  | 13 => ("NoonValley$Spreading", "nextCount", "I", false)
  | 14 => ("NoonValley$Spreading", "addedA", "I", false)
  | 15 => ("NoonValley$Spreading", "addedB", "I", false)
  | _ => ("NoonValley$Spreading", "spared", "I", false)
def tyX7 : Nat → FieldType := fun k => match k with
  | 0 => .object "NoonValley$Rows"
  | 1 => .int
  | 2 => .int
  | 3 => .int
  | 4 => .int
  | 5 => .array .int
  | 6 => .array .int
  | 7 => .array .int
  | 8 => .array .int
  | 9 => .array .int
  | 10 => .array .int
  | 11 => .array .int
  | 12 => .int
  | 13 => .int
  | 14 => .int
  | 15 => .int
  | _ => .int
abbrev wsX70 : List Cond := u_ws RX7 TX7 17
theorem nmX7 : ∀ a, a < 17 → ∀ b, b < 17 → a ≠ b → (TX7 a).2.1 ≠ (TX7 b).2.1 := by decide +kernel
theorem tyX7_ok : ∀ k, k < 17 → parseFieldDescriptor (TX7 k).2.2.1 = some (tyX7 k) := by decide +kernel
abbrev cX7_init : ByteArray := prog_9_method_1_code
def yX7_init : MethodName := ⟨RX7, "<init>", "()V"⟩
abbrev cX7_state : ByteArray := prog_9_method_2_code
def yX7_state : MethodName := ⟨RX7, "state", "(II)I"⟩
abbrev cX7_knownIn : ByteArray := prog_9_method_3_code
def yX7_knownIn : MethodName := ⟨RX7, "knownIn", "(I)I"⟩
abbrev cX7_onceIn : ByteArray := prog_9_method_4_code
def yX7_onceIn : MethodName := ⟨RX7, "onceIn", "(I)I"⟩
abbrev cX7_placeOf : ByteArray := prog_9_method_5_code
def yX7_placeOf : MethodName := ⟨RX7, "placeOf", "(I)I"⟩
abbrev cX7_prepare : ByteArray := prog_9_method_6_code
def yX7_prepare : MethodName := ⟨RX7, "prepare", "(LNoonValley$Valley;I)V"⟩
abbrev cX7_openLine : ByteArray := prog_9_method_7_code
def yX7_openLine : MethodName := ⟨RX7, "openLine", "(II)V"⟩
abbrev cX7_leastHours : ByteArray := prog_9_method_8_code
def yX7_leastHours : MethodName := ⟨RX7, "leastHours", "(III)I"⟩
abbrev cX7_isDone : ByteArray := prog_9_method_9_code
def yX7_isDone : MethodName := ⟨RX7, "isDone", "(I)Z"⟩
abbrev cX7_isDoneInOne : ByteArray := prog_9_method_10_code
def yX7_isDoneInOne : MethodName := ⟨RX7, "isDoneInOne", "()Z"⟩
abbrev cX7_begin : ByteArray := prog_9_method_11_code
def yX7_begin : MethodName := ⟨RX7, "begin", "(II)V"⟩
abbrev cX7_swap : ByteArray := prog_9_method_12_code
def yX7_swap : MethodName := ⟨RX7, "swap", "()V"⟩
abbrev cX7_arrive : ByteArray := prog_9_method_13_code
def yX7_arrive : MethodName := ⟨RX7, "arrive", "(II)V"⟩
abbrev cX7_arriveByAll : ByteArray := prog_9_method_14_code
def yX7_arriveByAll : MethodName := ⟨RX7, "arriveByAll", "(III)V"⟩
abbrev cX7_findRows : ByteArray := prog_9_method_15_code
def yX7_findRows : MethodName := ⟨RX7, "findRows", "(III)V"⟩
abbrev cX7_stateAfter : ByteArray := prog_9_method_16_code
def yX7_stateAfter : MethodName := ⟨RX7, "stateAfter", "(II)I"⟩
abbrev cX7_understands : ByteArray := prog_9_method_17_code
def yX7_understands : MethodName := ⟨RX7, "understands", "(I)I"⟩
abbrev cX7_comeToBy : ByteArray := prog_9_method_18_code
def yX7_comeToBy : MethodName := ⟨RX7, "comeToBy", "(III)I"⟩
abbrev cX7_comeToAfter : ByteArray := prog_9_method_19_code
def yX7_comeToAfter : MethodName := ⟨RX7, "comeToAfter", "(II)I"⟩
abbrev cX7_upperEnd : ByteArray := prog_9_method_20_code
def yX7_upperEnd : MethodName := ⟨RX7, "upperEnd", "(III)I"⟩
abbrev cX7_lowestRow : ByteArray := prog_9_method_21_code
def yX7_lowestRow : MethodName := ⟨RX7, "lowestRow", "(III)I"⟩
abbrev cX7_markGood : ByteArray := prog_9_method_22_code
def yX7_markGood : MethodName := ⟨RX7, "markGood", "(II)V"⟩
abbrev cX7_lowestGood : ByteArray := prog_9_method_23_code
def yX7_lowestGood : MethodName := ⟨RX7, "lowestGood", "(III)I"⟩
abbrev cX7_findAdded : ByteArray := prog_9_method_24_code
def yX7_findAdded : MethodName := ⟨RX7, "findAdded", "(LNoonValley$Valley;I)Z"⟩
abbrev cX7_hoursFromFirst : ByteArray := prog_9_method_25_code
def yX7_hoursFromFirst : MethodName := ⟨RX7, "hoursFromFirst", "(I)I"⟩
abbrev cX7_canHaveBegun : ByteArray := prog_9_method_26_code
def yX7_canHaveBegun : MethodName := ⟨RX7, "canHaveBegun", "(LNoonValley$Valley;II)Z"⟩
abbrev cX7_spreadAsTold : ByteArray := prog_9_method_27_code
def yX7_spreadAsTold : MethodName := ⟨RX7, "spreadAsTold", "(IIII)V"⟩
def RX8 : String := "NoonValley$Tape"
def TX8 : u_T := fun k => match k with
  | 0 => ("NoonValley$Tape", "bytes", "[I", true)
  | 1 => ("NoonValley$Tape", "length", "I", false)
  | _ => ("NoonValley$Tape", "place", "I", false)
def tyX8 : Nat → FieldType := fun k => match k with
  | 0 => .array .int
  | 1 => .int
  | _ => .int
abbrev wsX80 : List Cond := u_ws RX8 TX8 3
theorem nmX8 : ∀ a, a < 3 → ∀ b, b < 3 → a ≠ b → (TX8 a).2.1 ≠ (TX8 b).2.1 := by decide +kernel
theorem tyX8_ok : ∀ k, k < 3 → parseFieldDescriptor (TX8 k).2.2.1 = some (tyX8 k) := by decide +kernel
abbrev cX8_init : ByteArray := prog_10_method_1_code
def yX8_init : MethodName := ⟨RX8, "<init>", "()V"⟩
abbrev cX8_append : ByteArray := prog_10_method_2_code
def yX8_append : MethodName := ⟨RX8, "append", "(IIIII)I"⟩
abbrev cX8_cut : ByteArray := prog_10_method_3_code
def yX8_cut : MethodName := ⟨RX8, "cut", "(I)Z"⟩
abbrev cX8_at : ByteArray := prog_10_method_4_code
def yX8_at : MethodName := ⟨RX8, "at", "(I)I"⟩
abbrev cX8_bytesIn : ByteArray := prog_10_method_5_code
def yX8_bytesIn : MethodName := ⟨RX8, "bytesIn", "(I)I"⟩
abbrev cX8_appendNumber : ByteArray := prog_10_method_6_code
def yX8_appendNumber : MethodName := ⟨RX8, "appendNumber", "(I)V"⟩
abbrev cX8_read : ByteArray := prog_10_method_7_code
def yX8_read : MethodName := ⟨RX8, "read", "(LNoonValley$Valley;)I"⟩
abbrev cX8_skipBlanks : ByteArray := prog_10_method_8_code
def yX8_skipBlanks : MethodName := ⟨RX8, "skipBlanks", "()V"⟩
abbrev cX8_statement : ByteArray := prog_10_method_9_code
def yX8_statement : MethodName := ⟨RX8, "statement", "(LNoonValley$Valley;)Z"⟩
abbrev cX8_lineOf : ByteArray := prog_10_method_10_code
def yX8_lineOf : MethodName := ⟨RX8, "lineOf", "(LNoonValley$Valley;I)Z"⟩
abbrev cX8_newsOf : ByteArray := prog_10_method_11_code
def yX8_newsOf : MethodName := ⟨RX8, "newsOf", "(LNoonValley$Valley;[I)Z"⟩
abbrev cX8_deafOne : ByteArray := prog_10_method_12_code
def yX8_deafOne : MethodName := ⟨RX8, "deafOne", "(LNoonValley$Valley;)Z"⟩
abbrev cX8_number : ByteArray := prog_10_method_13_code
def yX8_number : MethodName := ⟨RX8, "number", "(III)I"⟩
abbrev cX8_isDigit : ByteArray := prog_10_method_14_code
def yX8_isDigit : MethodName := ⟨RX8, "isDigit", "(I)Z"⟩
def RX9 : String := "NoonValley$Trade"
def TX9 : u_T := fun k => match k with
  | 0 => ("NoonValley$Trade", "now", "[I", false)
  | 1 => ("NoonValley$Trade", "next", "[I", false)
  | _ => ("NoonValley$Trade", "open", "[Z", true)
def tyX9 : Nat → FieldType := fun k => match k with
  | 0 => .array .int
  | 1 => .array .int
  | _ => .array .boolean
abbrev wsX90 : List Cond := u_ws RX9 TX9 3
theorem nmX9 : ∀ a, a < 3 → ∀ b, b < 3 → a ≠ b → (TX9 a).2.1 ≠ (TX9 b).2.1 := by decide +kernel
theorem tyX9_ok : ∀ k, k < 3 → parseFieldDescriptor (TX9 k).2.2.1 = some (tyX9 k) := by decide +kernel
abbrev cX9_init : ByteArray := prog_11_method_1_code
def yX9_init : MethodName := ⟨RX9, "<init>", "()V"⟩
abbrev cX9_fewestCalls : ByteArray := prog_11_method_2_code
def yX9_fewestCalls : MethodName := ⟨RX9, "fewestCalls", "(LNoonValley$Valley;I)I"⟩
abbrev cX9_lookAtLines : ByteArray := prog_11_method_3_code
def yX9_lookAtLines : MethodName := ⟨RX9, "lookAtLines", "(LNoonValley$Valley;I)V"⟩
abbrev cX9_goOn : ByteArray := prog_11_method_4_code
def yX9_goOn : MethodName := ⟨RX9, "goOn", "(II)V"⟩
abbrev cX9_improve : ByteArray := prog_11_method_5_code
def yX9_improve : MethodName := ⟨RX9, "improve", "(II)V"⟩
abbrev cX9_join : ByteArray := prog_11_method_6_code
def yX9_join : MethodName := ⟨RX9, "join", "(II)I"⟩
abbrev cX9_goal : ByteArray := prog_11_method_7_code
def yX9_goal : MethodName := ⟨RX9, "goal", "(LNoonValley$Valley;)I"⟩
abbrev cX9_placeOf : ByteArray := prog_11_method_8_code
def yX9_placeOf : MethodName := ⟨RX9, "placeOf", "(I)I"⟩
abbrev cX9_stateAt : ByteArray := prog_11_method_9_code
def yX9_stateAt : MethodName := ⟨RX9, "stateAt", "(I)I"⟩
def RX10 : String := "NoonValley$Valley"
def TX10 : u_T := fun k => match k with
  | 0 => ("NoonValley$Valley", "people", "I", false)
  | 1 => ("NoonValley$Valley", "lineCount", "I", false)
  | 2 => ("NoonValley$Valley", "deaf", "I", false)
  | 3 => ("NoonValley$Valley", "knows", "[I", true)
  | 4 => ("NoonValley$Valley", "must", "[I", true)
  | 5 => ("NoonValley$Valley", "mustNot", "[I", true)
  | 6 => ("NoonValley$Valley", "firstNews", "[I", true)
  | 7 => ("NoonValley$Valley", "mustNews", "[I", true)
  | 8 => ("NoonValley$Valley", "mustNotNews", "[I", true)
  | 9 => ("NoonValley$Valley", "lines", "[I", true)
  | 10 => ("NoonValley$Valley", "callable", "[I", true)
  | 11 => ("NoonValley$Valley", "cards", "[I", true)
  | 12 => ("NoonValley$Valley", "cardLength", "[I", true)
  | 13 => ("NoonValley$Valley", "tales", "[I", true)
  | 14 => ("NoonValley$Valley", "gossipLength", "I", false)
  | _ => ("NoonValley$Valley", "gossipLines", "[I", true)
def tyX10 : Nat → FieldType := fun k => match k with
  | 0 => .int
  | 1 => .int
  | 2 => .int
  | 3 => .array .int
  | 4 => .array .int
  | 5 => .array .int
  | 6 => .array .int
  | 7 => .array .int
  | 8 => .array .int
  | 9 => .array .int
  | 10 => .array .int
  | 11 => .array .int
  | 12 => .array .int
  | 13 => .array .int
  | 14 => .int
  | _ => .array .int
abbrev wsX100 : List Cond := u_ws RX10 TX10 16
theorem nmX10 : ∀ a, a < 16 → ∀ b, b < 16 → a ≠ b → (TX10 a).2.1 ≠ (TX10 b).2.1 := by decide +kernel
theorem tyX10_ok : ∀ k, k < 16 → parseFieldDescriptor (TX10 k).2.2.1 = some (tyX10 k) := by decide +kernel
abbrev cX10_init : ByteArray := prog_12_method_1_code
def yX10_init : MethodName := ⟨RX10, "<init>", "()V"⟩
abbrev cX10_forget : ByteArray := prog_12_method_2_code
def yX10_forget : MethodName := ⟨RX10, "forget", "()V"⟩
abbrev cX10_settle : ByteArray := prog_12_method_3_code
def yX10_settle : MethodName := ⟨RX10, "settle", "()V"⟩
abbrev cX10_newsOfOne : ByteArray := prog_12_method_4_code
def yX10_newsOfOne : MethodName := ⟨RX10, "newsOfOne", "([II)I"⟩
abbrev cX10_hasPerson : ByteArray := prog_12_method_5_code
def yX10_hasPerson : MethodName := ⟨RX10, "hasPerson", "(I)Z"⟩
abbrev cX10_hasCouple : ByteArray := prog_12_method_6_code
def yX10_hasCouple : MethodName := ⟨RX10, "hasCouple", "(II)Z"⟩
abbrev cX10_everyone : ByteArray := prog_12_method_7_code
def yX10_everyone : MethodName := ⟨RX10, "everyone", "()I"⟩
abbrev cX10_hasRoomForLine : ByteArray := prog_12_method_8_code
def yX10_hasRoomForLine : MethodName := ⟨RX10, "hasRoomForLine", "()Z"⟩
abbrev cX10_appendLine : ByteArray := prog_12_method_9_code
def yX10_appendLine : MethodName := ⟨RX10, "appendLine", "(IIIII)V"⟩
abbrev cX10_hasLine : ByteArray := prog_12_method_10_code
def yX10_hasLine : MethodName := ⟨RX10, "hasLine", "(I)Z"⟩
abbrev cX10_lineFact : ByteArray := prog_12_method_11_code
def yX10_lineFact : MethodName := ⟨RX10, "lineFact", "(II)I"⟩
abbrev cX10_lineA : ByteArray := prog_12_method_12_code
def yX10_lineA : MethodName := ⟨RX10, "lineA", "(I)I"⟩
abbrev cX10_lineB : ByteArray := prog_12_method_13_code
def yX10_lineB : MethodName := ⟨RX10, "lineB", "(I)I"⟩
abbrev cX10_isOneWay : ByteArray := prog_12_method_14_code
def yX10_isOneWay : MethodName := ⟨RX10, "isOneWay", "(I)Z"⟩
abbrev cX10_isOpen : ByteArray := prog_12_method_15_code
def yX10_isOpen : MethodName := ⟨RX10, "isOpen", "(II)Z"⟩
abbrev cX10_works : ByteArray := prog_12_method_16_code
def yX10_works : MethodName := ⟨RX10, "works", "(II)Z"⟩
abbrev cX10_setDown : ByteArray := prog_12_method_17_code
def yX10_setDown : MethodName := ⟨RX10, "setDown", "(II)V"⟩
abbrev cX10_lookAtLines : ByteArray := prog_12_method_18_code
def yX10_lookAtLines : MethodName := ⟨RX10, "lookAtLines", "()V"⟩
abbrev cX10_callable : ByteArray := prog_12_method_19_code
def yX10_callable : MethodName := ⟨RX10, "callable", "(II)I"⟩
abbrev cX10_hasLineBetween : ByteArray := prog_12_method_20_code
def yX10_hasLineBetween : MethodName := ⟨RX10, "hasLineBetween", "(II)Z"⟩
abbrev cX10_neighbours : ByteArray := prog_12_method_21_code
def yX10_neighbours : MethodName := ⟨RX10, "neighbours", "(I)I"⟩
abbrev cX10_twoWayLines : ByteArray := prog_12_method_22_code
def yX10_twoWayLines : MethodName := ⟨RX10, "twoWayLines", "()I"⟩
abbrev cX10_holdsTogether : ByteArray := prog_12_method_23_code
def yX10_holdsTogether : MethodName := ⟨RX10, "holdsTogether", "()Z"⟩
abbrev cX10_appendToCard : ByteArray := prog_12_method_24_code
def yX10_appendToCard : MethodName := ⟨RX10, "appendToCard", "(II)I"⟩
abbrev cX10_emptyCards : ByteArray := prog_12_method_25_code
def yX10_emptyCards : MethodName := ⟨RX10, "emptyCards", "()V"⟩
abbrev cX10_nextOnCard : ByteArray := prog_12_method_26_code
def yX10_nextOnCard : MethodName := ⟨RX10, "nextOnCard", "(II)I"⟩
abbrev cX10_setTale : ByteArray := prog_12_method_27_code
def yX10_setTale : MethodName := ⟨RX10, "setTale", "(III)V"⟩
abbrev cX10_taleOf : ByteArray := prog_12_method_28_code
def yX10_taleOf : MethodName := ⟨RX10, "taleOf", "(II)I"⟩
abbrev cX10_whoseTaleIs : ByteArray := prog_12_method_29_code
def yX10_whoseTaleIs : MethodName := ⟨RX10, "whoseTaleIs", "(II)I"⟩
abbrev cX10_whoHasTale : ByteArray := prog_12_method_30_code
def yX10_whoHasTale : MethodName := ⟨RX10, "whoHasTale", "(I)I"⟩
def RX11 : String := "NoonValley"
def TX11 : u_T := fun k => match k with
  | 0 => ("NoonValley", "tape", "LNoonValley$Tape;", true)
  | 1 => ("NoonValley", "valleys", "[LNoonValley$Valley;", true)
  | 2 => ("NoonValley", "plans", "[LNoonValley$Plan;", true)
  | 3 => ("NoonValley", "carrying", "LNoonValley$Carrying;", true)
  | 4 => ("NoonValley", "spreading", "LNoonValley$Spreading;", true)
  | 5 => ("NoonValley", "shutting", "LNoonValley$Shutting;", true)
  | 6 => ("NoonValley", "gossip", "LNoonValley$Gossip;", true)
  | 7 => ("NoonValley", "trade", "LNoonValley$Trade;", true)
  | 8 => ("NoonValley", "cards", "LNoonValley$Cards;", true)
  | 9 => ("NoonValley", "chance", "LNoonValley$Chance;", true)
  | 10 => ("NoonValley", "spare", "LNoonValley$Valley;", false)
  | 11 => ("NoonValley", "valleyCount", "I", false)
  | 12 => ("NoonValley", "planCount", "I", false)
  | _ => ("NoonValley", "callCount", "I", false)
def tyX11 : Nat → FieldType := fun k => match k with
  | 0 => .object "NoonValley$Tape"
  | 1 => .array (.object "NoonValley$Valley")
  | 2 => .array (.object "NoonValley$Plan")
  | 3 => .object "NoonValley$Carrying"
  | 4 => .object "NoonValley$Spreading"
  | 5 => .object "NoonValley$Shutting"
  | 6 => .object "NoonValley$Gossip"
  | 7 => .object "NoonValley$Trade"
  | 8 => .object "NoonValley$Cards"
  | 9 => .object "NoonValley$Chance"
  | 10 => .object "NoonValley$Valley"
  | 11 => .int
  | 12 => .int
  | _ => .int
abbrev wsX110 : List Cond := u_ws RX11 TX11 14
theorem nmX11 : ∀ a, a < 14 → ∀ b, b < 14 → a ≠ b → (TX11 a).2.1 ≠ (TX11 b).2.1 := by decide +kernel
theorem tyX11_ok : ∀ k, k < 14 → parseFieldDescriptor (TX11 k).2.2.1 = some (tyX11 k) := by decide +kernel
abbrev cX11_init : ByteArray := prog_1_method_1_code
def yX11_init : MethodName := ⟨RX11, "<init>", "()V"⟩
abbrev cX11_feed : ByteArray := prog_1_method_2_code
def yX11_feed : MethodName := ⟨RX11, "feed", "(IIIII)I"⟩
abbrev cX11_end : ByteArray := prog_1_method_3_code
def yX11_end : MethodName := ⟨RX11, "end", "(I)Z"⟩
abbrev cX11_fault : ByteArray := prog_1_method_4_code
def yX11_fault : MethodName := ⟨RX11, "fault", "()I"⟩
abbrev cX11_valley : ByteArray := prog_1_method_5_code
def yX11_valley : MethodName := ⟨RX11, "valley", "()I"⟩
abbrev cX11_told : ByteArray := prog_1_method_6_code
def yX11_told : MethodName := ⟨RX11, "told", "(II)I"⟩
abbrev cX11_line : ByteArray := prog_1_method_7_code
def yX11_line : MethodName := ⟨RX11, "line", "(III)I"⟩
abbrev cX11_down : ByteArray := prog_1_method_8_code
def yX11_down : MethodName := ⟨RX11, "down", "(III)Z"⟩
abbrev cX11_may : ByteArray := prog_1_method_9_code
def yX11_may : MethodName := ⟨RX11, "may", "(IIII)I"⟩
abbrev cX11_plan : ByteArray := prog_1_method_10_code
def yX11_plan : MethodName := ⟨RX11, "plan", "(I)I"⟩
abbrev cX11_call : ByteArray := prog_1_method_11_code
def yX11_call : MethodName := ⟨RX11, "call", "(IIIII)I"⟩
abbrev cX11_lawful : ByteArray := prog_1_method_12_code
def yX11_lawful : MethodName := ⟨RX11, "lawful", "(II)I"⟩
abbrev cX11_unlawful : ByteArray := prog_1_method_13_code
def yX11_unlawful : MethodName := ⟨RX11, "unlawful", "(I)I"⟩
abbrev cX11_known : ByteArray := prog_1_method_14_code
def yX11_known : MethodName := ⟨RX11, "known", "(III)I"⟩
abbrev cX11_together : ByteArray := prog_1_method_15_code
def yX11_together : MethodName := ⟨RX11, "together", "(III)I"⟩
abbrev cX11_when : ByteArray := prog_1_method_16_code
def yX11_when : MethodName := ⟨RX11, "when", "(II)I"⟩
abbrev cX11_least : ByteArray := prog_1_method_17_code
def yX11_least : MethodName := ⟨RX11, "least", "(III)I"⟩
abbrev cX11_found : ByteArray := prog_1_method_18_code
def yX11_found : MethodName := ⟨RX11, "found", "(IIIII)I"⟩
abbrev cX11_reach : ByteArray := prog_1_method_19_code
def yX11_reach : MethodName := ⟨RX11, "reach", "(IIII)I"⟩
abbrev cX11_from : ByteArray := prog_1_method_20_code
def yX11_from : MethodName := ⟨RX11, "from", "(III)I"⟩
abbrev cX11_added : ByteArray := prog_1_method_21_code
def yX11_added : MethodName := ⟨RX11, "added", "(III)I"⟩
abbrev cX11_shut : ByteArray := prog_1_method_22_code
def yX11_shut : MethodName := ⟨RX11, "shut", "(IIII)I"⟩
abbrev cX11_fewest : ByteArray := prog_1_method_23_code
def yX11_fewest : MethodName := ⟨RX11, "fewest", "(I)I"⟩
abbrev cX11_gossip : ByteArray := prog_1_method_24_code
def yX11_gossip : MethodName := ⟨RX11, "gossip", "(II)I"⟩
abbrev cX11_ends : ByteArray := prog_1_method_25_code
def yX11_ends : MethodName := ⟨RX11, "ends", "(II)I"⟩
abbrev cX11_trade : ByteArray := prog_1_method_26_code
def yX11_trade : MethodName := ⟨RX11, "trade", "(III)I"⟩
abbrev cX11_card : ByteArray := prog_1_method_27_code
def yX11_card : MethodName := ⟨RX11, "card", "(III)I"⟩
abbrev cX11_blank : ByteArray := prog_1_method_28_code
def yX11_blank : MethodName := ⟨RX11, "blank", "(I)Z"⟩
abbrev cX11_kept : ByteArray := prog_1_method_29_code
def yX11_kept : MethodName := ⟨RX11, "kept", "(II)I"⟩
abbrev cX11_tree : ByteArray := prog_1_method_30_code
def yX11_tree : MethodName := ⟨RX11, "tree", "(IIII)I"⟩
abbrev cX11_breaks : ByteArray := prog_1_method_31_code
def yX11_breaks : MethodName := ⟨RX11, "breaks", "(II)I"⟩
abbrev cX11_breaker : ByteArray := prog_1_method_32_code
def yX11_breaker : MethodName := ⟨RX11, "breaker", "(I)I"⟩
abbrev cX11_ways : ByteArray := prog_1_method_33_code
def yX11_ways : MethodName := ⟨RX11, "ways", "(III)J"⟩
abbrev cX11_drawn : ByteArray := prog_1_method_34_code
def yX11_drawn : MethodName := ⟨RX11, "drawn", "(IIJ)I"⟩
abbrev cX11_tale : ByteArray := prog_1_method_35_code
def yX11_tale : MethodName := ⟨RX11, "tale", "(IIII)Z"⟩
abbrev cX11_who : ByteArray := prog_1_method_36_code
def yX11_who : MethodName := ⟨RX11, "who", "(II)I"⟩
abbrev cX11_fits : ByteArray := prog_1_method_37_code
def yX11_fits : MethodName := ⟨RX11, "fits", "(II)I"⟩
abbrev cX11_count : ByteArray := prog_1_method_38_code
def yX11_count : MethodName := ⟨RX11, "count", "(I)I"⟩
abbrev cX11_valleyAt : ByteArray := prog_1_method_39_code
def yX11_valleyAt : MethodName := ⟨RX11, "valleyAt", "(I)LNoonValley$Valley;"⟩
abbrev cX11_planAt : ByteArray := prog_1_method_40_code
def yX11_planAt : MethodName := ⟨RX11, "planAt", "(I)LNoonValley$Plan;"⟩
abbrev cX11_isHour : ByteArray := prog_1_method_41_code
def yX11_isHour : MethodName := ⟨RX11, "isHour", "(I)Z"⟩
abbrev cX11_isHourOrFirst : ByteArray := prog_1_method_42_code
def yX11_isHourOrFirst : MethodName := ⟨RX11, "isHourOrFirst", "(I)Z"⟩
abbrev cX11_isNews : ByteArray := prog_1_method_43_code
def yX11_isNews : MethodName := ⟨RX11, "isNews", "(I)Z"⟩
abbrev cX11_has : ByteArray := prog_1_method_44_code
def yX11_has : MethodName := ⟨RX11, "has", "(II)Z"⟩
abbrev cX11_lowestOf : ByteArray := prog_1_method_45_code
def yX11_lowestOf : MethodName := ⟨RX11, "lowestOf", "(I)I"⟩
def RX12 : String := "NoonValleyModel"
def TX12 : u_T := fun k => match k with
  | 0 => ("NoonValleyModel", "thrown", "I", false)
  | 1 => ("NoonValleyModel", "tape", "[B", true)
  | 2 => ("NoonValleyModel", "length", "I", false)
  | 3 => ("NoonValleyModel", "at", "I", false)
  | 4 => ("NoonValleyModel", "fault", "I", false)
  | 5 => ("NoonValleyModel", "number", "I", false)
  | 6 => ("NoonValleyModel", "people", "[I", true)
  | 7 => ("NoonValleyModel", "lines", "[I", true)
  | 8 => ("NoonValleyModel", "deaf", "[I", true)
  | 9 => ("NoonValleyModel", "knows", "[I", true)
  | 10 => ("NoonValleyModel", "musts", "[I", true)
  | 11 => ("NoonValleyModel", "mustNots", "[I", true)
  | 12 => ("NoonValleyModel", "lineA", "[I", true)
  | 13 => ("NoonValleyModel", "lineB", "[I", true)
  | 14 => ("NoonValleyModel", "lineF", "[I", true)
  | 15 => ("NoonValleyModel", "lineT", "[I", true)
  | 16 => ("NoonValleyModel", "lineDown", "[I", true)
  | 17 => ("NoonValleyModel", "isOne", "[Z", true)
  | 18 => ("NoonValleyModel", "valleys", "I", false)
  | 19 => ("NoonValleyModel", "moreA", "I", false)
  | 20 => ("NoonValleyModel", "moreB", "I", false)
  | 21 => ("NoonValleyModel", "planOf", "[I", true)
  | 22 => ("NoonValleyModel", "calls", "[I", true)
  | 23 => ("NoonValleyModel", "callHour", "[I", true)
  | 24 => ("NoonValleyModel", "callKind", "[I", true)
  | 25 => ("NoonValleyModel", "callOne", "[I", true)
  | 26 => ("NoonValleyModel", "callOther", "[I", true)
  | 27 => ("NoonValleyModel", "plans", "I", false)
  | 28 => ("NoonValleyModel", "law", "[I", true)
  | 29 => ("NoonValleyModel", "reached", "[I", true)
  | 30 => ("NoonValleyModel", "after", "[I", true)
  | 31 => ("NoonValleyModel", "once", "[I", true)
  | 32 => ("NoonValleyModel", "fresh", "[I", true)
  | 33 => ("NoonValleyModel", "twice", "[I", true)
  | 34 => ("NoonValleyModel", "need", "[B", true)
  | 35 => ("NoonValleyModel", "row", "[I", true)
  | 36 => ("NoonValleyModel", "lowRow", "[I", true)
  | 37 => ("NoonValleyModel", "askValley", "I", false)
  | 38 => ("NoonValleyModel", "askMust", "I", false)
  | 39 => ("NoonValleyModel", "askNot", "I", false)
  | 40 => ("NoonValleyModel", "bestNeed", "I", false)
  | 41 => ("NoonValleyModel", "askHour", "I", false)
  | 42 => ("NoonValleyModel", "askWanted", "I", false)
  | 43 => ("NoonValleyModel", "findsRow", "Z", false)
  | 44 => ("NoonValleyModel", "nextKnow", "I", false)
  | 45 => ("NoonValleyModel", "nextOnce", "I", false)
  | 46 => ("NoonValleyModel", "things", "[I", true)
  | 47 => ("NoonValleyModel", "gossipRow", "[I", true)
  | 48 => ("NoonValleyModel", "isLower", "[Z", true)
  | 49 => ("NoonValleyModel", "cost", "[I", true)
  | 50 => ("NoonValleyModel", "costNext", "[I", true)
  | 51 => ("NoonValleyModel", "tradeCosts", "[I", true)
  | 52 => ("NoonValleyModel", "cards", "[I", true)
  | 53 => ("NoonValleyModel", "cardLong", "[I", true)
  | 54 => ("NoonValleyModel", "gone", "[I", true)
  | 55 => ("NoonValleyModel", "below", "[I", true)
  | 56 => ("NoonValleyModel", "belowMany", "[I", true)
  | 57 => ("NoonValleyModel", "time", "[I", true)
  | 58 => ("NoonValleyModel", "broken", "[I", true)
  | 59 => ("NoonValleyModel", "ways", "[J", true)
  | 60 => ("NoonValleyModel", "waysNext", "[J", true)
  | 61 => ("NoonValleyModel", "tales", "[I", true)
  | 62 => ("NoonValleyModel", "can", "[Z", true)
  | _ => ("NoonValleyModel", "canNext", "[Z", true)
def tyX12 : Nat → FieldType := fun k => match k with
  | 0 => .int
  | 1 => .array .byte
  | 2 => .int
  | 3 => .int
  | 4 => .int
  | 5 => .int
  | 6 => .array .int
  | 7 => .array .int
  | 8 => .array .int
  | 9 => .array .int
  | 10 => .array .int
  | 11 => .array .int
  | 12 => .array .int
  | 13 => .array .int
  | 14 => .array .int
  | 15 => .array .int
  | 16 => .array .int
  | 17 => .array .boolean
  | 18 => .int
  | 19 => .int
  | 20 => .int
  | 21 => .array .int
  | 22 => .array .int
  | 23 => .array .int
  | 24 => .array .int
  | 25 => .array .int
  | 26 => .array .int
  | 27 => .int
  | 28 => .array .int
  | 29 => .array .int
  | 30 => .array .int
  | 31 => .array .int
  | 32 => .array .int
  | 33 => .array .int
  | 34 => .array .byte
  | 35 => .array .int
  | 36 => .array .int
  | 37 => .int
  | 38 => .int
  | 39 => .int
  | 40 => .int
  | 41 => .int
  | 42 => .int
  | 43 => .boolean
  | 44 => .int
  | 45 => .int
  | 46 => .array .int
  | 47 => .array .int
  | 48 => .array .boolean
  | 49 => .array .int
  | 50 => .array .int
  | 51 => .array .int
  | 52 => .array .int
  | 53 => .array .int
  | 54 => .array .int
  | 55 => .array .int
  | 56 => .array .int
  | 57 => .array .int
  | 58 => .array .int
  | 59 => .array .long
  | 60 => .array .long
  | 61 => .array .int
  | 62 => .array .boolean
  | _ => .array .boolean
abbrev wsX120 : List Cond := u_ws RX12 TX12 64
theorem nmX12 : ∀ a, a < 64 → ∀ b, b < 64 → a ≠ b → (TX12 a).2.1 ≠ (TX12 b).2.1 := by decide +kernel
theorem tyX12_ok : ∀ k, k < 64 → parseFieldDescriptor (TX12 k).2.2.1 = some (tyX12 k) := by decide +kernel
abbrev cX12_init : ByteArray := prog_14_method_1_code
def yX12_init : MethodName := ⟨RX12, "<init>", "()V"⟩
abbrev cX12_thrown : ByteArray := prog_14_method_2_code
def yX12_thrown : MethodName := ⟨RX12, "thrown", "()I"⟩
abbrev cX12_isIn : ByteArray := prog_14_method_3_code
def yX12_isIn : MethodName := ⟨RX12, "isIn", "(III)Z"⟩
abbrev cX12_bytesIn : ByteArray := prog_14_method_4_code
def yX12_bytesIn : MethodName := ⟨RX12, "bytesIn", "(I)I"⟩
abbrev cX12_put : ByteArray := prog_14_method_5_code
def yX12_put : MethodName := ⟨RX12, "put", "(I)V"⟩
abbrev cX12_feed : ByteArray := prog_14_method_6_code
def yX12_feed : MethodName := ⟨RX12, "feed", "(IIIII)I"⟩
abbrev cX12_end : ByteArray := prog_14_method_7_code
def yX12_end : MethodName := ⟨RX12, "end", "(I)Z"⟩
abbrev cX12_here : ByteArray := prog_14_method_8_code
def yX12_here : MethodName := ⟨RX12, "here", "()I"⟩
abbrev cX12_look : ByteArray := prog_14_method_9_code
def yX12_look : MethodName := ⟨RX12, "look", "()I"⟩
abbrev cX12_fails : ByteArray := prog_14_method_10_code
def yX12_fails : MethodName := ⟨RX12, "fails", "(I)Z"⟩
abbrev cX12_isDigit : ByteArray := prog_14_method_11_code
def yX12_isDigit : MethodName := ⟨RX12, "isDigit", "()Z"⟩
abbrev cX12_number : ByteArray := prog_14_method_12_code
def yX12_number : MethodName := ⟨RX12, "number", "(III)Z"⟩
abbrev cX12_readLine : ByteArray := prog_14_method_13_code
def yX12_readLine : MethodName := ⟨RX12, "readLine", "(IZ)Z"⟩
abbrev cX12_readBit : ByteArray := prog_14_method_14_code
def yX12_readBit : MethodName := ⟨RX12, "readBit", "(I[IZ)Z"⟩
abbrev cX12_statement : ByteArray := prog_14_method_15_code
def yX12_statement : MethodName := ⟨RX12, "statement", "(I)Z"⟩
abbrev cX12_readValley : ByteArray := prog_14_method_16_code
def yX12_readValley : MethodName := ⟨RX12, "readValley", "()Z"⟩
abbrev cX12_fault : ByteArray := prog_14_method_17_code
def yX12_fault : MethodName := ⟨RX12, "fault", "()I"⟩
abbrev cX12_valley : ByteArray := prog_14_method_18_code
def yX12_valley : MethodName := ⟨RX12, "valley", "()I"⟩
abbrev cX12_isValley : ByteArray := prog_14_method_19_code
def yX12_isValley : MethodName := ⟨RX12, "isValley", "(I)Z"⟩
abbrev cX12_isPerson : ByteArray := prog_14_method_20_code
def yX12_isPerson : MethodName := ⟨RX12, "isPerson", "(II)Z"⟩
abbrev cX12_isNews : ByteArray := prog_14_method_21_code
def yX12_isNews : MethodName := ⟨RX12, "isNews", "(I)Z"⟩
abbrev cX12_isHour : ByteArray := prog_14_method_22_code
def yX12_isHour : MethodName := ⟨RX12, "isHour", "(I)Z"⟩
abbrev cX12_everybody : ByteArray := prog_14_method_23_code
def yX12_everybody : MethodName := ⟨RX12, "everybody", "(I)I"⟩
abbrev cX12_told : ByteArray := prog_14_method_24_code
def yX12_told : MethodName := ⟨RX12, "told", "(II)I"⟩
abbrev cX12_isLine : ByteArray := prog_14_method_25_code
def yX12_isLine : MethodName := ⟨RX12, "isLine", "(II)Z"⟩
abbrev cX12_line : ByteArray := prog_14_method_26_code
def yX12_line : MethodName := ⟨RX12, "line", "(III)I"⟩
abbrev cX12_down : ByteArray := prog_14_method_27_code
def yX12_down : MethodName := ⟨RX12, "down", "(III)Z"⟩
abbrev cX12_works : ByteArray := prog_14_method_28_code
def yX12_works : MethodName := ⟨RX12, "works", "(II)Z"⟩
abbrev cX12_joins : ByteArray := prog_14_method_29_code
def yX12_joins : MethodName := ⟨RX12, "joins", "(III)Z"⟩
abbrev cX12_mayCall : ByteArray := prog_14_method_30_code
def yX12_mayCall : MethodName := ⟨RX12, "mayCall", "(IIII)Z"⟩
abbrev cX12_may : ByteArray := prog_14_method_31_code
def yX12_may : MethodName := ⟨RX12, "may", "(IIII)I"⟩
abbrev cX12_isPlan : ByteArray := prog_14_method_32_code
def yX12_isPlan : MethodName := ⟨RX12, "isPlan", "(I)Z"⟩
abbrev cX12_plan : ByteArray := prog_14_method_33_code
def yX12_plan : MethodName := ⟨RX12, "plan", "(I)I"⟩
abbrev cX12_call : ByteArray := prog_14_method_34_code
def yX12_call : MethodName := ⟨RX12, "call", "(IIIII)I"⟩
abbrev cX12_reaches : ByteArray := prog_14_method_35_code
def yX12_reaches : MethodName := ⟨RX12, "reaches", "(II)I"⟩
abbrev cX12_judge : ByteArray := prog_14_method_36_code
def yX12_judge : MethodName := ⟨RX12, "judge", "(I)V"⟩
abbrev cX12_isCall : ByteArray := prog_14_method_37_code
def yX12_isCall : MethodName := ⟨RX12, "isCall", "(II)Z"⟩
abbrev cX12_lawful : ByteArray := prog_14_method_38_code
def yX12_lawful : MethodName := ⟨RX12, "lawful", "(II)I"⟩
abbrev cX12_unlawful : ByteArray := prog_14_method_39_code
def yX12_unlawful : MethodName := ⟨RX12, "unlawful", "(I)I"⟩
abbrev cX12_tells : ByteArray := prog_14_method_40_code
def yX12_tells : MethodName := ⟨RX12, "tells", "(IIII)V"⟩
abbrev cX12_carry : ByteArray := prog_14_method_41_code
def yX12_carry : MethodName := ⟨RX12, "carry", "(IJI)V"⟩
abbrev cX12_notFor : ByteArray := prog_14_method_42_code
def yX12_notFor : MethodName := ⟨RX12, "notFor", "(II)I"⟩
abbrev cX12_mustOf : ByteArray := prog_14_method_43_code
def yX12_mustOf : MethodName := ⟨RX12, "mustOf", "(II)I"⟩
abbrev cX12_carryAll : ByteArray := prog_14_method_44_code
def yX12_carryAll : MethodName := ⟨RX12, "carryAll", "(I)V"⟩
abbrev cX12_known : ByteArray := prog_14_method_45_code
def yX12_known : MethodName := ⟨RX12, "known", "(III)I"⟩
abbrev cX12_together : ByteArray := prog_14_method_46_code
def yX12_together : MethodName := ⟨RX12, "together", "(III)I"⟩
abbrev cX12_allKnow : ByteArray := prog_14_method_47_code
def yX12_allKnow : MethodName := ⟨RX12, "allKnow", "(III)Z"⟩
abbrev cX12_when : ByteArray := prog_14_method_48_code
def yX12_when : MethodName := ⟨RX12, "when", "(II)I"⟩
abbrev cX12_ask : ByteArray := prog_14_method_49_code
def yX12_ask : MethodName := ⟨RX12, "ask", "(II)V"⟩
abbrev cX12_needed : ByteArray := prog_14_method_50_code
def yX12_needed : MethodName := ⟨RX12, "needed", "(III)I"⟩
abbrev cX12_rowsLeast : ByteArray := prog_14_method_51_code
def yX12_rowsLeast : MethodName := ⟨RX12, "rowsLeast", "(III)I"⟩
abbrev cX12_tryRow : ByteArray := prog_14_method_52_code
def yX12_tryRow : MethodName := ⟨RX12, "tryRow", "(IIIIII)I"⟩
abbrev cX12_isAsked : ByteArray := prog_14_method_53_code
def yX12_isAsked : MethodName := ⟨RX12, "isAsked", "(II)Z"⟩
abbrev cX12_leastFrom : ByteArray := prog_14_method_54_code
def yX12_leastFrom : MethodName := ⟨RX12, "leastFrom", "(III)I"⟩
abbrev cX12_least : ByteArray := prog_14_method_55_code
def yX12_least : MethodName := ⟨RX12, "least", "(III)I"⟩
abbrev cX12_lowest : ByteArray := prog_14_method_56_code
def yX12_lowest : MethodName := ⟨RX12, "lowest", "(IIIIIII)Z"⟩
abbrev cX12_found : ByteArray := prog_14_method_57_code
def yX12_found : MethodName := ⟨RX12, "found", "(IIIII)I"⟩
abbrev cX12_from : ByteArray := prog_14_method_58_code
def yX12_from : MethodName := ⟨RX12, "from", "(III)I"⟩
abbrev cX12_hasLine : ByteArray := prog_14_method_59_code
def yX12_hasLine : MethodName := ⟨RX12, "hasLine", "(III)Z"⟩
abbrev cX12_added : ByteArray := prog_14_method_60_code
def yX12_added : MethodName := ⟨RX12, "added", "(III)I"⟩
abbrev cX12_spread : ByteArray := prog_14_method_61_code
def yX12_spread : MethodName := ⟨RX12, "spread", "(IIIIII)I"⟩
abbrev cX12_reach : ByteArray := prog_14_method_62_code
def yX12_reach : MethodName := ⟨RX12, "reach", "(IIII)I"⟩
abbrev cX12_comesTo : ByteArray := prog_14_method_63_code
def yX12_comesTo : MethodName := ⟨RX12, "comesTo", "(IIIIII)Z"⟩
abbrev cX12_shut : ByteArray := prog_14_method_64_code
def yX12_shut : MethodName := ⟨RX12, "shut", "(IIII)I"⟩
abbrev cX12_holdsAll : ByteArray := prog_14_method_65_code
def yX12_holdsAll : MethodName := ⟨RX12, "holdsAll", "(I)Z"⟩
abbrev cX12_gossips : ByteArray := prog_14_method_66_code
def yX12_gossips : MethodName := ⟨RX12, "gossips", "(III)Z"⟩
abbrev cX12_fewestOf : ByteArray := prog_14_method_67_code
def yX12_fewestOf : MethodName := ⟨RX12, "fewestOf", "(I)I"⟩
abbrev cX12_fewest : ByteArray := prog_14_method_68_code
def yX12_fewest : MethodName := ⟨RX12, "fewest", "(I)I"⟩
abbrev cX12_gossip : ByteArray := prog_14_method_69_code
def yX12_gossip : MethodName := ⟨RX12, "gossip", "(II)I"⟩
abbrev cX12_ends : ByteArray := prog_14_method_70_code
def yX12_ends : MethodName := ⟨RX12, "ends", "(II)I"⟩
abbrev cX12_mayTrade : ByteArray := prog_14_method_71_code
def yX12_mayTrade : MethodName := ⟨RX12, "mayTrade", "(IIII)Z"⟩
abbrev cX12_traded : ByteArray := prog_14_method_72_code
def yX12_traded : MethodName := ⟨RX12, "traded", "(III)I"⟩
abbrev cX12_meet : ByteArray := prog_14_method_73_code
def yX12_meet : MethodName := ⟨RX12, "meet", "(II)V"⟩
abbrev cX12_layTrades : ByteArray := prog_14_method_74_code
def yX12_layTrades : MethodName := ⟨RX12, "layTrades", "(I)V"⟩
abbrev cX12_trade : ByteArray := prog_14_method_75_code
def yX12_trade : MethodName := ⟨RX12, "trade", "(III)I"⟩
abbrev cX12_card : ByteArray := prog_14_method_76_code
def yX12_card : MethodName := ⟨RX12, "card", "(III)I"⟩
abbrev cX12_blank : ByteArray := prog_14_method_77_code
def yX12_blank : MethodName := ⟨RX12, "blank", "(I)Z"⟩
abbrev cX12_kept : ByteArray := prog_14_method_78_code
def yX12_kept : MethodName := ⟨RX12, "kept", "(II)I"⟩
abbrev cX12_isTree : ByteArray := prog_14_method_79_code
def yX12_isTree : MethodName := ⟨RX12, "isTree", "(I)Z"⟩
abbrev cX12_isBeside : ByteArray := prog_14_method_80_code
def yX12_isBeside : MethodName := ⟨RX12, "isBeside", "(III)Z"⟩
abbrev cX12_layTree : ByteArray := prog_14_method_81_code
def yX12_layTree : MethodName := ⟨RX12, "layTree", "(III)V"⟩
abbrev cX12_tree : ByteArray := prog_14_method_82_code
def yX12_tree : MethodName := ⟨RX12, "tree", "(IIII)I"⟩
abbrev cX12_bears : ByteArray := prog_14_method_83_code
def yX12_bears : MethodName := ⟨RX12, "bears", "(IJI)Z"⟩
abbrev cX12_breaksBy : ByteArray := prog_14_method_84_code
def yX12_breaksBy : MethodName := ⟨RX12, "breaksBy", "(IIIIJ)Z"⟩
abbrev cX12_breaks : ByteArray := prog_14_method_85_code
def yX12_breaks : MethodName := ⟨RX12, "breaks", "(II)I"⟩
abbrev cX12_breaker : ByteArray := prog_14_method_86_code
def yX12_breaker : MethodName := ⟨RX12, "breaker", "(I)I"⟩
abbrev cX12_choose : ByteArray := prog_14_method_87_code
def yX12_choose : MethodName := ⟨RX12, "choose", "(IIIIJ)V"⟩
abbrev cX12_ways : ByteArray := prog_14_method_88_code
def yX12_ways : MethodName := ⟨RX12, "ways", "(III)J"⟩
abbrev cX12_drawn : ByteArray := prog_14_method_89_code
def yX12_drawn : MethodName := ⟨RX12, "drawn", "(IIJ)I"⟩
abbrev cX12_tale : ByteArray := prog_14_method_90_code
def yX12_tale : MethodName := ⟨RX12, "tale", "(IIII)Z"⟩
abbrev cX12_taleOf : ByteArray := prog_14_method_91_code
def yX12_taleOf : MethodName := ⟨RX12, "taleOf", "(III)I"⟩
abbrev cX12_isAsTold : ByteArray := prog_14_method_92_code
def yX12_isAsTold : MethodName := ⟨RX12, "isAsTold", "(IIII)Z"⟩
abbrev cX12_goRows : ByteArray := prog_14_method_93_code
def yX12_goRows : MethodName := ⟨RX12, "goRows", "(IIIIIIII)V"⟩
abbrev cX12_canBegin : ByteArray := prog_14_method_94_code
def yX12_canBegin : MethodName := ⟨RX12, "canBegin", "(III)Z"⟩
abbrev cX12_who : ByteArray := prog_14_method_95_code
def yX12_who : MethodName := ⟨RX12, "who", "(II)I"⟩
abbrev cX12_fits : ByteArray := prog_14_method_96_code
def yX12_fits : MethodName := ⟨RX12, "fits", "(II)I"⟩
abbrev cX12_count : ByteArray := prog_14_method_97_code
def yX12_count : MethodName := ⟨RX12, "count", "(I)I"⟩
def RJx145de : String := "java/io/Serializable"
def TJx145de : u_T := fun k => match k with
  | _ => ("", "", "", false)
def tyJx145de : Nat → FieldType := fun k => match k with
  | _ => .int
theorem nmJx145de : ∀ a, a < 0 → ∀ b, b < 0 → a ≠ b → (TJx145de a).2.1 ≠ (TJx145de b).2.1 := by decide +kernel
theorem tyJx145de_ok : ∀ k, k < 0 → parseFieldDescriptor (TJx145de k).2.2.1 = some (tyJx145de k) := by decide +kernel
def RJ6 : String := "java/lang/Integer"
def TJ6 : u_T := fun k => match k with
  | _ => ("", "", "", false)
def tyJ6 : Nat → FieldType := fun k => match k with
  | _ => .int
abbrev wsJ60 : List Cond := u_ws RJ6 TJ6 0
theorem nmJ6 : ∀ a, a < 0 → ∀ b, b < 0 → a ≠ b → (TJ6 a).2.1 ≠ (TJ6 b).2.1 := by decide +kernel
theorem tyJ6_ok : ∀ k, k < 0 → parseFieldDescriptor (TJ6 k).2.2.1 = some (tyJ6 k) := by decide +kernel
abbrev cJ6_bitCount_0f7a4 : ByteArray := prog_17_method_49_code
def yJ6_bitCount_0f7a4 : MethodName := ⟨RJ6, "bitCount", "(I)I"⟩
def RJ9 : String := "java/lang/Math"
def TJ9 : u_T := fun k => match k with
  | _ => ("", "", "", false)
def tyJ9 : Nat → FieldType := fun k => match k with
  | _ => .int
abbrev wsJ90 : List Cond := u_ws RJ9 TJ9 0
theorem nmJ9 : ∀ a, a < 0 → ∀ b, b < 0 → a ≠ b → (TJ9 a).2.1 ≠ (TJ9 b).2.1 := by decide +kernel
theorem tyJ9_ok : ∀ k, k < 0 → parseFieldDescriptor (TJ9 k).2.2.1 = some (tyJ9 k) := by decide +kernel
abbrev cJ9_max_7cf53 : ByteArray := prog_18_method_65_code
def yJ9_max_7cf53 : MethodName := ⟨RJ9, "max", "(II)I"⟩
abbrev cJ9_min_7cf53 : ByteArray := prog_18_method_69_code
def yJ9_min_7cf53 : MethodName := ⟨RJ9, "min", "(II)I"⟩
def RJ10 : String := "java/lang/System"
def TJ10 : u_T := fun k => match k with
  | _ => ("", "", "", false)
def tyJ10 : Nat → FieldType := fun k => match k with
  | _ => .int
abbrev wsJ100 : List Cond := u_ws RJ10 TJ10 0
theorem nmJ10 : ∀ a, a < 0 → ∀ b, b < 0 → a ≠ b → (TJ10 a).2.1 ≠ (TJ10 b).2.1 := by decide +kernel
theorem tyJ10_ok : ∀ k, k < 0 → parseFieldDescriptor (TJ10 k).2.2.1 = some (tyJ10 k) := by decide +kernel
def RJ7 : String := "java/util/Arrays"
def TJ7 : u_T := fun k => match k with
  | _ => ("", "", "", false)
def tyJ7 : Nat → FieldType := fun k => match k with
  | _ => .int
abbrev wsJ70 : List Cond := u_ws RJ7 TJ7 0
theorem nmJ7 : ∀ a, a < 0 → ∀ b, b < 0 → a ≠ b → (TJ7 a).2.1 ≠ (TJ7 b).2.1 := by decide +kernel
theorem tyJ7_ok : ∀ k, k < 0 → parseFieldDescriptor (TJ7 k).2.2.1 = some (tyJ7 k) := by decide +kernel
abbrev cJ7_fill_d0a16 : ByteArray := prog_22_method_101_code
def yJ7_fill_d0a16 : MethodName := ⟨RJ7, "fill", "([JJ)V"⟩
abbrev cJ7_fill_53178 : ByteArray := prog_22_method_103_code
def yJ7_fill_53178 : MethodName := ⟨RJ7, "fill", "([II)V"⟩
def RL : String := "NoonValleyLaw"
abbrev cL_line : ByteArray := method_3_code
def yL_line : MethodName := ⟨RL, "line", "(LNoonValley;III[J)I"⟩
abbrev cL_law : ByteArray := code
def yL_law : MethodName := ⟨RL, "law", "([I)Z"⟩
end
section
/-! rows of this proof alone: one list of words for every contract, one context, one world -/
abbrev CLS : List vw_C := [(RX0, TX0, 7), (RX1, TX1, 5), (RX2, TX2, 2), (RX3, TX3, 3), (RX4, TX4, 9), (RX5, TX5, 6), (RX6, TX6, 5), (RX7, TX7, 17), (RX8, TX8, 3), (RX9, TX9, 3), (RX10, TX10, 16), (RX11, TX11, 14), (RX12, TX12, 64)]
/-- the tables' words that hold on warmed tables too -/
def BW : List Cond := lw_tbl.filter goodWord
/-- the links between nest mates -/
def isNest : Cond → Bool
  | .fieldLinkNest .. => true
  | .methodLinkNest .. => true
  | _ => false
def NWS : List Cond := lw_tbl.filter isNest
theorem BW_good {w : Cond} (h : w ∈ BW) : goodWord w = true := (List.mem_filter.mp h).2
theorem BW_tbl {w : Cond} (h : w ∈ BW) : w ∈ lw_tbl := (List.mem_filter.mp h).1
theorem bw {w : Cond} (h : w ∈ lw_tbl) (g : goodWord w = true) : w ∈ BW := List.mem_filter.mpr ⟨h, g⟩
theorem nw {w : Cond} (h : w ∈ lw_tbl) (g : isNest w = true) : w ∈ NWS := List.mem_filter.mpr ⟨h, g⟩
theorem tb1 {w : Cond} (i : Nat) (h : tables_1_1[i]? = some w) : w ∈ lw_tbl := List.mem_append_right _ (List.mem_append_left _ (List.mem_of_getElem? h))
theorem tb2 {w : Cond} (i : Nat) (h : tables_1_2[i]? = some w) : w ∈ lw_tbl := List.mem_append_right _ (List.mem_append_right _ (List.mem_append_left _ (List.mem_of_getElem? h)))
theorem tb3 {w : Cond} (i : Nat) (h : tables_1_3[i]? = some w) : w ∈ lw_tbl := List.mem_append_right _ (List.mem_append_right _ (List.mem_append_right _ (List.mem_append_left _ (List.mem_of_getElem? h))))
theorem tb4 {w : Cond} (i : Nat) (h : tables_1_4[i]? = some w) : w ∈ lw_tbl := List.mem_append_right _ (List.mem_append_right _ (List.mem_append_right _ (List.mem_append_right _ (List.mem_append_left _ (List.mem_of_getElem? h)))))
theorem tb5 {w : Cond} (i : Nat) (h : tables_1_5[i]? = some w) : w ∈ lw_tbl := List.mem_append_right _ (List.mem_append_right _ (List.mem_append_right _ (List.mem_append_right _ (List.mem_append_right _ (List.mem_append_left _ (List.mem_of_getElem? h))))))
theorem tb6 {w : Cond} (i : Nat) (h : tables_1_6[i]? = some w) : w ∈ lw_tbl := List.mem_append_right _ (List.mem_append_right _ (List.mem_append_right _ (List.mem_append_right _ (List.mem_append_right _ (List.mem_append_right _ (List.mem_append_left _ (List.mem_of_getElem? h)))))))
theorem tb7 {w : Cond} (i : Nat) (h : tables_1_7[i]? = some w) : w ∈ lw_tbl := List.mem_append_right _ (List.mem_append_right _ (List.mem_append_right _ (List.mem_append_right _ (List.mem_append_right _ (List.mem_append_right _ (List.mem_append_right _ (List.mem_append_left _ (List.mem_of_getElem? h))))))))
theorem tb8 {w : Cond} (i : Nat) (h : tables_1_8[i]? = some w) : w ∈ lw_tbl := List.mem_append_right _ (List.mem_append_right _ (List.mem_append_right _ (List.mem_append_right _ (List.mem_append_right _ (List.mem_append_right _ (List.mem_append_right _ (List.mem_append_right _ (List.mem_of_getElem? h))))))))
theorem sl {y : MethodName} (n : Nat) (h : (y, n) ∈ lw_privs) : Cond.selects y.cls y y ∈ lw_tbl := List.mem_append_left _ (List.mem_map.mpr ⟨(y, n), h, rfl⟩)
theorem sl1 {y : MethodName} {n : Nat} (i : Nat) (h : lw_privs_1[i]? = some (y, n)) : Cond.selects y.cls y y ∈ lw_tbl := sl n (List.mem_append_left _ (List.mem_of_getElem? h))
theorem sl2 {y : MethodName} {n : Nat} (i : Nat) (h : lw_privs_2[i]? = some (y, n)) : Cond.selects y.cls y y ∈ lw_tbl := sl n (List.mem_append_right _ (List.mem_append_left _ (List.mem_of_getElem? h)))
theorem sl3 {y : MethodName} {n : Nat} (i : Nat) (h : lw_privs_3[i]? = some (y, n)) : Cond.selects y.cls y y ∈ lw_tbl := sl n (List.mem_append_right _ (List.mem_append_right _ (List.mem_append_left _ (List.mem_of_getElem? h))))
theorem sl4 {y : MethodName} {n : Nat} (i : Nat) (h : lw_privs_4[i]? = some (y, n)) : Cond.selects y.cls y y ∈ lw_tbl := sl n (List.mem_append_right _ (List.mem_append_right _ (List.mem_append_right _ (List.mem_append_left _ (List.mem_of_getElem? h)))))
theorem sl5 {y : MethodName} {n : Nat} (i : Nat) (h : lw_privs_5[i]? = some (y, n)) : Cond.selects y.cls y y ∈ lw_tbl := sl n (List.mem_append_right _ (List.mem_append_right _ (List.mem_append_right _ (List.mem_append_right _ (List.mem_append_left _ (List.mem_of_getElem? h))))))
theorem sl6 {y : MethodName} {n : Nat} (i : Nat) (h : lw_privs_6[i]? = some (y, n)) : Cond.selects y.cls y y ∈ lw_tbl := sl n (List.mem_append_right _ (List.mem_append_right _ (List.mem_append_right _ (List.mem_append_right _ (List.mem_append_right _ (List.mem_append_left _ (List.mem_of_getElem? h)))))))
theorem sl7 {y : MethodName} {n : Nat} (i : Nat) (h : lw_privs_7[i]? = some (y, n)) : Cond.selects y.cls y y ∈ lw_tbl := sl n (List.mem_append_right _ (List.mem_append_right _ (List.mem_append_right _ (List.mem_append_right _ (List.mem_append_right _ (List.mem_append_right _ (List.mem_of_getElem? h)))))))
/-- what every contract knows of the machine: the classes' slots, the arrays' classes, the tables' addresses -/
abbrev GG : Type := va_G × (Nat → ClassId) × Nat × Nat
abbrev TYS (g : GG) : List (ClassId × FieldType) := [(g.2.1 0, .byte), (g.2.1 1, .int), (g.2.1 2, .long), (g.2.1 3, .boolean), (g.2.1 4, .object RX10), (g.2.1 5, .object RX4)]
def KX (g : GG) (U : State) : Prop := va_K g.1 CLS (TYS g) U ∧ (∀ w ∈ NWS, va_Nw w U) ∧ va_AO RX10 U ∧ va_AO RX4 U
theorem KX.warm {g : GG} {s U : State} (hW : s.WarmedH U.vm) (h : KX g s) : KX g U := by
  refine ⟨va_K.moved hW.alike h.1, fun w hw => ?_, va_AO.moved hW.alike h.2.2.1, va_AO.moved hW.alike h.2.2.2⟩
  have h1 := h.2.1 w hw
  have h2 : isNest w = true := (List.mem_filter.mp hw).2
  cases w <;> first | exact va_Nw.warmF hW h1 | exact va_Nw.warmM hW h1 | cases h2
theorem KX.calling {g : GG} {U : State} {f : JFrame} {mk : MethodId} {a : Array Value} (h : KX g U) : KX g (U.calling f mk a) := by
  refine ⟨va_K.moved (u := U) (U := U.calling f mk a) (Vm.Alike.refl U.vm) h.1, fun w hw => ?_, va_AO.moved (u := U) (U := U.calling f mk a) (Vm.Alike.refl U.vm) h.2.2.1, va_AO.moved (u := U) (U := U.calling f mk a) (Vm.Alike.refl U.vm) h.2.2.2⟩
  have h1 := h.2.1 w hw
  have h2 : isNest w = true := (List.mem_filter.mp hw).2
  cases w <;> first | exact va_Nw.same rfl rfl h1 | cases h2
/-- the two tables of the class Trade -/
def fCA (j : Nat) : Value := .int (if j = 3 then 1 else if j = 4 then 1 else if j = 5 then 2 else 0)
def fCB (j : Nat) : Value := .int (if j = 0 then 1 else if j = 1 then 2 else if j = 2 then 3 else if j = 3 then 2 else 3)
def TB (g : GG) (A : Nat → Prop) (U : State) (H : Heap) : Prop :=
  (va_Z RX9 "COUPLE_A" "[I" (.ref g.2.2.1) A U H ∧ va_T .int g.2.2.1 6 fCA A U H) ∧ (va_Z RX9 "COUPLE_B" "[I" (.ref g.2.2.2) A U H ∧ va_T .int g.2.2.2 6 fCB A U H)
theorem TB.moved {g : GG} {A : Nat → Prop} {u U : State} {H : Heap} (hvm : u.vm.Alike U.vm) (h : TB g A u H) : TB g A U H := ⟨⟨h.1.1.moved hvm, h.1.2.moved hvm⟩, h.2.1.moved hvm, h.2.2.moved hvm⟩
theorem TB.kept {g : GG} {A : Nat → Prop} {U : State} {H H1 : Heap} (h : TB g A U H) (hq : ∀ a : Nat, a < H.size → ¬ A a → H1[a]? = H[a]?) : TB g A U H1 := ⟨⟨h.1.1.kept hq, h.1.2.kept hq⟩, h.2.1.kept hq, h.2.2.kept hq⟩
theorem TB.narrow {g : GG} {A B : Nat → Prop} {U : State} {H : Heap} (h : TB g A U H) (hAB : ∀ q, B q → A q) : TB g B U H := ⟨⟨h.1.1.narrow hAB, h.1.2.narrow hAB⟩, h.2.1.narrow hAB, h.2.2.narrow hAB⟩
/-- a method's start -/
def PRE (g : GG) (ws : va_W) (sz : Nat) : State → Prop := fun U => U.heap.size = sz ∧ va_P g.1 CLS ws U.heap ∧ KX g U ∧ va_D (fun _ => True) ws ∧ TB g (va_A ws sz) U U.heap
theorem PRE.blind {g : GG} {ws : va_W} {sz : Nat} {As : List Value} : FrameBlind (va_Pc As (PRE g ws sz)) := by
  intro a U f mk q
  obtain ⟨q0, q1, qP, qK, qD, qT⟩ := q
  exact ⟨q0, q1, qP, qK.calling, qD, TB.moved (u := U) (U := U.calling f mk a) (Vm.Alike.refl U.vm) qT⟩
/-- a method's end: the world behind it -/
abbrev BO (g : GG) (A : Nat → Prop) : va_W → State → Prop := fun u t => va_P g.1 CLS u t.heap ∧ va_D A u
abbrev RM (d mc ms : Nat) : Room := { frames := d, cells := mc, slots := ms, locals := 40 * d }
abbrev WW (y : MethodName) (c : ByteArray) (n : Nat) (r : Option FieldType) : List Cond := Cond.code y c n r :: BW
def MetI (l : Launch) (g : GG) (y : MethodName) (c : ByteArray) (n : Nat) (r : Option FieldType) (d mc ms : Nat) (As : List Value) (ws : va_W) (post : Int32 → va_W → Prop) : Prop :=
  ∀ sz, Met l y (WW y c n r) (RM d mc ms) (va_Pc As (PRE g ws sz)) (va_Qi post (BO g (va_A ws sz)) (va_A ws sz)) mc ms (va_A ws sz)
def MetL (l : Launch) (g : GG) (y : MethodName) (c : ByteArray) (n : Nat) (r : Option FieldType) (d mc ms : Nat) (As : List Value) (ws : va_W) (post : Int64 → va_W → Prop) : Prop :=
  ∀ sz, Met l y (WW y c n r) (RM d mc ms) (va_Pc As (PRE g ws sz)) (va_Ql post (BO g (va_A ws sz)) (va_A ws sz)) mc ms (va_A ws sz)
def MetV (l : Launch) (g : GG) (y : MethodName) (c : ByteArray) (n : Nat) (r : Option FieldType) (d mc ms : Nat) (As : List Value) (ws : va_W) (post : va_W → Prop) : Prop :=
  ∀ sz, Met l y (WW y c n r) (RM d mc ms) (va_Pc As (PRE g ws sz)) (va_Qv post (BO g (va_A ws sz)) (va_A ws sz)) mc ms (va_A ws sz)
def MetQ (l : Launch) (g : GG) (y : MethodName) (c : ByteArray) (n : Nat) (r : Option FieldType) (d mc ms : Nat) (As : List Value) (ws : va_W) (post : Option Nat → va_W → Prop) : Prop :=
  ∀ sz, Met l y (WW y c n r) (RM d mc ms) (va_Pc As (PRE g ws sz)) (va_Qq post (BO g (va_A ws sz)) (va_A ws sz)) mc ms (va_A ws sz)
/-- a method's frame and what it knows -/
def CTX (p : Program) (l : Launch) (m : MethodId) (meth : Method) (c : Code) (cc : ByteArray) (nL : Nat) (s : State) (args : Array Value) (own : String) (g : GG) (A : Nat → Prop) : Prop :=
  p.tables.exec = Jvm.exec ∧ c.code = cc ∧ c.maxLocals = nL ∧ s.vm.findClass own = some m.cls ∧ (∀ w ∈ BW, w.before args s = true) ∧ KX g s ∧ TB g A s s.heap ∧ (∀ q : Nat, s.heap.size ≤ q → A q) ∧ meth.locks = false
/-- the world: what the cells hold, that they are apart and the method's own, what has changed -/
def WD (g : GG) (A : Nat → Prop) (s : State) (H : Heap) (locs : List Loc) (ws : va_W) : Prop := va_P g.1 CLS ws H ∧ va_D A ws ∧ va_S A s.heap H locs
theorem WD.pick {g : GG} {A : Nat → Prop} {s : State} {H : Heap} {locs : List Loc} {ws ws' : va_W} (h : WD g A s H locs ws) (is : List Nat) (hn : va_nd is = true) (hs : is.map (fun i => ws[i]?) = ws'.map some) : WD g A s H locs ws' := by
  refine ⟨fun k q hk => ?_, h.2.1.sub is hn hs, h.2.2⟩
  have h1 : (is.map (fun i => ws[i]?))[k]? = some (some q) := by rw [hs, List.getElem?_map, hk]; rfl
  rw [List.getElem?_map] at h1
  cases hi : is[k]? with
  | none => rw [hi] at h1; cases h1
  | some i => rw [hi] at h1; exact h.1 i q (Option.some.inj h1)
/-- a class by its place in CLS: its words, its types -/
def CI (ci : Nat) (C : String) (T : u_T) (N : Nat) (ty : Nat → FieldType) : Prop := CLS[ci]? = some (C, T, N) ∧ (∀ w ∈ u_ws C T N, w ∈ BW) ∧ (∀ k, k < N → parseFieldDescriptor (T k).2.2.1 = some (ty k)) ∧ (∀ a, a < N → ∀ b, b < N → a ≠ b → (T a).2.1 ≠ (T b).2.1)
/-- the words of a call -/
def LV (own : String) (idx : Nat) (C : String) (y : MethodName) (c : ByteArray) (n : Nat) (r : Option FieldType) (k : Nat) : Prop :=
  Cond.methodLink own idx y ∈ BW ∧ Cond.instanceMethod y ∈ BW ∧ Cond.selects C y y ∈ BW ∧ Cond.initialized C ∈ BW ∧ Cond.code y c n r ∈ BW ∧ y.cls = C ∧ y.cls ≠ "java/lang/invoke/MethodHandle" ∧ y.cls ≠ "java/lang/invoke/VarHandle" ∧ (parseMethodDescriptor y.desc).map (fun d => d.parameters.length) = some k
def LST (own : String) (idx : Nat) (y : MethodName) (c : ByteArray) (n : Nat) (r : Option FieldType) (k : Nat) : Prop :=
  Cond.methodLink own idx y ∈ BW ∧ Cond.static y ∈ BW ∧ Cond.initialized y.cls ∈ BW ∧ Cond.code y c n r ∈ BW ∧ y.cls ≠ "java/lang/invoke/MethodHandle" ∧ y.cls ≠ "java/lang/invoke/VarHandle" ∧ (parseMethodDescriptor y.desc).map (fun d => d.parameters.length) = some k
def LSN (own : String) (idx : Nat) (host : String) (y : MethodName) (c : ByteArray) (n : Nat) (r : Option FieldType) (k : Nat) : Prop :=
  Cond.methodLinkNest own idx y host ∈ NWS ∧ Cond.static y ∈ BW ∧ Cond.initialized y.cls ∈ BW ∧ Cond.code y c n r ∈ BW ∧ y.cls ≠ "java/lang/invoke/MethodHandle" ∧ y.cls ≠ "java/lang/invoke/VarHandle" ∧ (parseMethodDescriptor y.desc).map (fun d => d.parameters.length) = some k
def LI (own : String) (idx : Nat) (y : MethodName) (c : ByteArray) (n : Nat) (k : Nat) : Prop :=
  Cond.methodLink own idx y ∈ BW ∧ Cond.instanceMethod y ∈ BW ∧ Cond.initialized y.cls ∈ BW ∧ Cond.code y c n none ∈ BW ∧ y.name = "<init>" ∧ y.cls ≠ "java/lang/invoke/MethodHandle" ∧ y.cls ≠ "java/lang/invoke/VarHandle" ∧ (parseMethodDescriptor y.desc).map (fun d => d.parameters.length) = some k
def LIN (own : String) (idx : Nat) (host : String) (y : MethodName) (c : ByteArray) (n : Nat) (k : Nat) : Prop :=
  Cond.methodLinkNest own idx y host ∈ NWS ∧ Cond.instanceMethod y ∈ BW ∧ Cond.initialized y.cls ∈ BW ∧ Cond.code y c n none ∈ BW ∧ y.name = "<init>" ∧ y.cls ≠ "java/lang/invoke/MethodHandle" ∧ y.cls ≠ "java/lang/invoke/VarHandle" ∧ (parseMethodDescriptor y.desc).map (fun d => d.parameters.length) = some k
theorem good_in {ws : List Cond} (h : ∀ w ∈ ws, w ∈ BW) : GoodIn BW ws := fun w hw => ⟨h w hw, good_of_word (BW_good (h w hw))⟩
theorem good_ww {y : MethodName} {c : ByteArray} {n : Nat} {r : Option FieldType} (h : Cond.code y c n r ∈ BW) : GoodIn BW (WW y c n r) := good_in fun w hw => by
  rcases List.mem_cons.mp hw with rfl | hw
  · exact h
  · exact hw
section
variable {p : Program} {l : Launch} {e : Env} {R : Room} {s : State} {m : MethodId} {args : Array Value} {below : List Frame} {meth : Method} {c : Code} {H : Heap} {locs : List Loc} {cells slots : Nat} {Q : State → Prop}
variable {cc : ByteArray} {pc nL : Nat} {ls : Array Slot} {rest : List Value} {own : String} {g : GG} {A : Nat → Prop} {ws ws' : va_W} {a : Nat}
-- fields
theorem r_get (X : CTX p l m meth c cc nL s args own g A) (hW : WD g A s H locs ws) (q0 : Nat) {ci : Nat} {C ref : String} {T : u_T} {N index : Nat} {ty : Nat → FieldType} (hc : CI ci C T N ty) (k : Nat) {fs : List Value} (he : ws[q0]? = some (a, .inr (ci, fs))) (hk : k < N) (hl : Cond.fieldLink own index ref (T k).2.1 (T k).2.2.1 ∈ BW) (href : (T k).1 = ref) {v : Value} (hv : fs[k]? = some v) (hdg : decode cc pc = .ok (.getfield index, 3))
    (kk : W p l e R s m args below meth c H locs cells slots Q (F0 m (pc + 3) ls (v :: rest))) : W p l e R s m args below meth c H locs cells slots Q (F0 m pc ls (.ref a :: rest)) :=
  va_get X.1 X.2.1 X.2.2.2.2.1 hc.2.1 X.2.2.2.1 X.2.2.2.2.2.1.1 hW.1 q0 he hc.1 k hk (X.2.2.2.2.1 _ hl) (fun _ h => by rw [← href]; exact h) hv hdg kk
theorem r_getN (X : CTX p l m meth c cc nL s args own g A) (hW : WD g A s H locs ws) (q0 : Nat) {ci : Nat} {C ref host : String} {T : u_T} {N index : Nat} {ty : Nat → FieldType} (hc : CI ci C T N ty) (k : Nat) {fs : List Value} (he : ws[q0]? = some (a, .inr (ci, fs))) (hk : k < N) (hl : Cond.fieldLinkNest own index ref (T k).2.1 (T k).2.2.1 host ∈ NWS) (href : (T k).1 = ref) {v : Value} (hv : fs[k]? = some v) (hdg : decode cc pc = .ok (.getfield index, 3))
    (kk : W p l e R s m args below meth c H locs cells slots Q (F0 m (pc + 3) ls (v :: rest))) : W p l e R s m args below meth c H locs cells slots Q (F0 m pc ls (.ref a :: rest)) :=
  va_getN X.1 X.2.1 X.2.2.2.2.1 hc.2.1 X.2.2.2.1 X.2.2.2.2.2.1.1 hW.1 q0 he hc.1 k hk (va_Nw.use rfl (X.2.2.2.2.2.1.2.1 _ hl)) (fun _ h => by rw [← href]; exact h) hv hdg kk
theorem r_put (X : CTX p l m meth c cc nL s args own g A) (hW : WD g A s H locs ws) (q0 : Nat) {ci : Nat} {C ref : String} {T : u_T} {N index : Nat} {ty : Nat → FieldType} (hc : CI ci C T N ty) (k : Nat) {fs : List Value} (he : ws[q0]? = some (a, .inr (ci, fs))) (hk : k < N) (hl : Cond.fieldLink own index ref (T k).2.1 (T k).2.2.1 ∈ BW) (href : (T k).1 = ref) (hfin : (T k).2.2.2 = false) {v : Value} (hn : narrow (ty k) v = v) (hfit : fits (ty k) v = true) (hlt : k < fs.length) (hws : ws.set q0 (a, .inr (ci, fs.set k v)) = ws') (hdg : decode cc pc = .ok (.putfield index, 3))
    (kk : ∀ (H1 : Heap) (locs1 : List Loc), WD g A s H1 locs1 ws' → W p l e R s m args below meth c H1 locs1 cells slots Q (F0 m (pc + 3) ls rest)) : W p l e R s m args below meth c H locs cells slots Q (F0 m pc ls (v :: .ref a :: rest)) := by
  subst hws
  exact va_put X.1 X.2.1 X.2.2.2.2.1 hc.2.1 ty hc.2.2.1 hc.2.2.2 X.2.2.2.1 X.2.2.2.2.2.1.1 hW.1 hW.2.1 hW.2.2 q0 he hc.1 k hk (X.2.2.2.2.1 _ hl) (fun _ h => by rw [← href]; exact h) hfin (hc.2.2.1 k hk) hn hfit hlt hdg (fun H1 locs1 h1 h2 h3 => kk H1 locs1 ⟨h1, h2, h3⟩)
theorem r_putN (X : CTX p l m meth c cc nL s args own g A) (hW : WD g A s H locs ws) (q0 : Nat) {ci : Nat} {C ref host : String} {T : u_T} {N index : Nat} {ty : Nat → FieldType} (hc : CI ci C T N ty) (k : Nat) {fs : List Value} (he : ws[q0]? = some (a, .inr (ci, fs))) (hk : k < N) (hl : Cond.fieldLinkNest own index ref (T k).2.1 (T k).2.2.1 host ∈ NWS) (href : (T k).1 = ref) (hfin : (T k).2.2.2 = false) {v : Value} (hn : narrow (ty k) v = v) (hfit : fits (ty k) v = true) (hlt : k < fs.length) (hws : ws.set q0 (a, .inr (ci, fs.set k v)) = ws') (hdg : decode cc pc = .ok (.putfield index, 3))
    (kk : ∀ (H1 : Heap) (locs1 : List Loc), WD g A s H1 locs1 ws' → W p l e R s m args below meth c H1 locs1 cells slots Q (F0 m (pc + 3) ls rest)) : W p l e R s m args below meth c H locs cells slots Q (F0 m pc ls (v :: .ref a :: rest)) := by
  subst hws
  exact va_putN X.1 X.2.1 X.2.2.2.2.1 hc.2.1 ty hc.2.2.1 hc.2.2.2 X.2.2.2.1 X.2.2.2.2.2.1.1 hW.1 hW.2.1 hW.2.2 q0 he hc.1 k hk (va_Nw.use rfl (X.2.2.2.2.2.1.2.1 _ hl)) (fun _ h => by rw [← href]; exact h) hfin (hc.2.2.1 k hk) hn hfit hlt hdg (fun H1 locs1 h1 h2 h3 => kk H1 locs1 ⟨h1, h2, h3⟩)
theorem r_putF (X : CTX p l m meth c cc nL s args own g A) (hin : meth.name = "<init>") (hW : WD g A s H locs ws) (q0 : Nat) {ci : Nat} {C ref : String} {T : u_T} {N index : Nat} {ty : Nat → FieldType} (hc : CI ci C T N ty) (k : Nat) {fs : List Value} (he : ws[q0]? = some (a, .inr (ci, fs))) (hk : k < N) (hl : Cond.fieldLink own index ref (T k).2.1 (T k).2.2.1 ∈ BW) (href : (T k).1 = ref) (hfin : (T k).2.2.2 = true) (hdecl : (T k).1 = own) {v : Value} (hn : narrow (ty k) v = v) (hfit : fits (ty k) v = true) (hlt : k < fs.length) (hws : ws.set q0 (a, .inr (ci, fs.set k v)) = ws') (hdg : decode cc pc = .ok (.putfield index, 3))
    (kk : ∀ (H1 : Heap) (locs1 : List Loc), WD g A s H1 locs1 ws' → W p l e R s m args below meth c H1 locs1 cells slots Q (F0 m (pc + 3) ls rest)) : W p l e R s m args below meth c H locs cells slots Q (F0 m pc ls (v :: .ref a :: rest)) := by
  subst hws
  exact va_putF X.1 X.2.1 X.2.2.2.2.1 hc.2.1 ty hc.2.2.1 hc.2.2.2 X.2.2.2.1 X.2.2.2.2.2.1.1 hW.1 hW.2.1 hW.2.2 q0 he hc.1 k hk (X.2.2.2.2.1 _ hl) (fun _ h => by rw [← href]; exact h) hfin hin hdecl (hc.2.2.1 k hk) hn hfit hlt hdg (fun H1 locs1 h1 h2 h3 => kk H1 locs1 ⟨h1, h2, h3⟩)
-- new objects and arrays
theorem r_new (X : CTX p l m meth c cc nL s args own g A) (hW : WD g A s H locs ws) {ci : Nat} {C : String} {T : u_T} {N index : Nat} {ty : Nat → FieldType} (hc : CI ci C T N ty) (h1 : Cond.classLink own index C ∈ BW) (h2 : Cond.instantiable C N ∈ BW) (h3 : Cond.initialized C ∈ BW) {fs : List Value} (hfs : (List.range N).all (fun j => decide (defaultValue (ty j) = vp_V fs j)) = true) (hf : cells + 1 ≤ R.cells ∧ slots + N ≤ R.slots) (hdg : decode cc pc = .ok (.new index, 3))
    (kk : ∀ (q : Nat) (H1 : Heap), WD g A s H1 locs (ws ++ [(q, .inr (ci, fs))]) → W p l e R s m args below meth c H1 locs (cells + 1) (slots + N) Q (F0 m (pc + 3) ls (.ref q :: rest))) : W p l e R s m args below meth c H locs cells slots Q (F0 m pc ls rest) :=
  va_new X.1 X.2.1 X.2.2.2.2.1 hc.2.1 ty hc.2.2.1 X.2.2.2.1 (X.2.2.2.2.1 _ h1) (X.2.2.2.2.1 _ h2) (X.2.2.2.2.1 _ h3) X.2.2.2.2.2.1.1 hW.1 hW.2.1 hW.2.2 X.2.2.2.2.2.2.2.1 hc.1 (fun j hj => of_decide_eq_true (List.all_eq_true.mp hfs j (List.mem_range.mpr hj))) hf.1 hf.2 hdg (fun q H1 a1 a2 a3 => kk q H1 ⟨a1, a2, a3⟩)
theorem tys_one {D : va_G} {cl : List vw_C} {tys : List (ClassId × FieldType)} {U : State} {k : Nat} {c1 c2 : ClassId} {ty : FieldType} (hK : va_K D cl (tys ++ [(c1, ty)]) U) (hk : tys[k]? = some (c2, ty)) (hty : ∀ C, ty ≠ .object C) : c1 = c2 := by
  have h1 := (hK.2 tys.length (c1, ty) (by simp)).2
  have hlt : k < tys.length := (List.getElem?_eq_some_iff.mp hk).1
  have h2 := (hK.2 k (c2, ty) (by rw [List.getElem?_append_left hlt]; exact hk)).2
  cases ty <;> first | exact Option.some.inj (h1.symm.trans h2) | exact absurd rfl (hty _)
theorem tys_oneO {D : va_G} {cl : List vw_C} {tys : List (ClassId × FieldType)} {U : State} {k : Nat} {c1 c2 : ClassId} {C : String} (hK : va_K D cl (tys ++ [(c1, .object C)]) U) (hk : tys[k]? = some (c2, .object C)) : c1 = c2 := by
  obtain ⟨-, -, -, -, -, h1⟩ := (hK.2 tys.length (c1, .object C) (by simp)).2
  have hlt : k < tys.length := (List.getElem?_eq_some_iff.mp hk).1
  obtain ⟨-, -, -, -, -, h2⟩ := (hK.2 k (c2, .object C) (by rw [List.getElem?_append_left hlt]; exact hk)).2
  exact Option.some.inj (h1.symm.trans h2)
theorem r_newa (X : CTX p l m meth c cc nL s args own g A) (hW : WD g A s H locs ws) (atype : ArrayType) {ty : FieldType} (hty : newarray.typeOf atype = ty) (harr : Cond.arrayClass ty ∈ BW) (t0 : Nat) {cA : ClassId} (ht : (TYS g)[t0]? = some (cA, ty)) (hto : ∀ C, ty ≠ .object C) {n : Int32} {N : Nat} {a0 : vp_A} (ha : ∀ cA : ClassId, vp_cell cA a0 = arrV cA N (fun _ => defaultValue ty)) (hn : ¬ n < 0) (hN : n.toNatClampNeg = N) (hb9 : N * componentBytes ty ≤ 536870912) (hf : cells + 1 ≤ R.cells ∧ slots + N ≤ R.slots) (hdg : decode cc pc = .ok (.newarray atype, 2))
    (kk : ∀ (q : Nat) (H1 : Heap), WD g A s H1 locs (ws ++ [(q, .inl (cA, a0))]) → W p l e R s m args below meth c H1 locs (cells + 1) (slots + N) Q (F0 m (pc + 2) ls (.ref q :: rest))) : W p l e R s m args below meth c H locs cells slots Q (F0 m pc ls (.int n :: rest)) := by
  refine va_newa X.1 X.2.1 (atype := atype) (by rw [hty]; exact X.2.2.2.2.1 _ harr) hty X.2.2.2.2.2.1.1 hW.1 hW.2.1 hW.2.2 X.2.2.2.2.2.2.2.1 ha hn hN hb9 hf.1 hf.2 hdg (fun q cA' H1 h1 h2 h3 h4 => ?_)
  obtain rfl := tys_one h1 ht hto
  exact kk q H1 ⟨h2, h3, h4⟩
theorem r_newq (X : CTX p l m meth c cc nL s args own g A) (hW : WD g A s H locs ws) {C : String} {index : Nat} (hcl : Cond.classLink own index C ∈ BW) (hao : KX g s → va_AO C s) (t0 : Nat) {cA : ClassId} (ht : (TYS g)[t0]? = some (cA, .object C)) {n : Int32} {N : Nat} (hn : ¬ n < 0) (hN : n.toNatClampNeg = N) (hb9 : N * 4 ≤ 536870912) (hf : cells + 1 ≤ R.cells ∧ slots + N ≤ R.slots) (hdg : decode cc pc = .ok (.anewarray index, 3))
    (kk : ∀ (q : Nat) (H1 : Heap), WD g A s H1 locs (ws ++ [(q, .inl (cA, N, .inr (.inr (.inr (.inr (fun _ => none))))))]) → W p l e R s m args below meth c H1 locs (cells + 1) (slots + N) Q (F0 m (pc + 3) ls (.ref q :: rest))) : W p l e R s m args below meth c H locs cells slots Q (F0 m pc ls (.int n :: rest)) := by
  refine va_newq X.1 X.2.1 X.2.2.2.1 (X.2.2.2.2.1 _ hcl) (hao X.2.2.2.2.2.1) X.2.2.2.2.2.1.1 hW.1 hW.2.1 hW.2.2 X.2.2.2.2.2.2.2.1 hn hN hb9 hf.1 hf.2 hdg (fun q cA' H1 h1 h2 h3 h4 => ?_)
  obtain rfl := tys_oneO h1 ht
  exact kk q H1 ⟨h2, h3, h4⟩
-- arrays
theorem r_iald (X : CTX p l m meth c cc nL s args own g A) (hW : WD g A s H locs ws) (q0 : Nat) {n : Nat} {f : Nat → Int32} (ha : ws[q0]? = some (a, .inl (g.2.1 1, n, .inl f))) {i : Int32} (hin : vp_in i n) (hdg : decode cc pc = .ok (.iaload, 1))
    (kk : W p l e R s m args below meth c H locs cells slots Q (F0 m (pc + 1) ls (.int (f i.toNatClampNeg) :: rest))) : W p l e R s m args below meth c H locs cells slots Q (F0 m pc ls (.int i :: .ref a :: rest)) :=
  va_iald X.1 X.2.1 X.2.2.2.2.2.1.1 hW.1 q0 1 ha rfl hin hdg kk
theorem r_bald (X : CTX p l m meth c cc nL s args own g A) (hW : WD g A s H locs ws) (q0 : Nat) {n : Nat} {f : Nat → Int32} (ha : ws[q0]? = some (a, .inl (g.2.1 0, n, .inl f))) {i : Int32} (hin : vp_in i n) (hdg : decode cc pc = .ok (.baload, 1))
    (kk : W p l e R s m args below meth c H locs cells slots Q (F0 m (pc + 1) ls (.int (f i.toNatClampNeg) :: rest))) : W p l e R s m args below meth c H locs cells slots Q (F0 m pc ls (.int i :: .ref a :: rest)) :=
  va_bald X.1 X.2.1 X.2.2.2.2.2.1.1 hW.1 q0 0 ha rfl hin hdg kk
theorem r_lald (X : CTX p l m meth c cc nL s args own g A) (hW : WD g A s H locs ws) (q0 : Nat) {n : Nat} {f : Nat → Int64} (ha : ws[q0]? = some (a, .inl (g.2.1 2, n, .inr (.inl f)))) {i : Int32} (hin : vp_in i n) (hdg : decode cc pc = .ok (.laload, 1))
    (kk : W p l e R s m args below meth c H locs cells slots Q (F0 m (pc + 1) ls (.long (f i.toNatClampNeg) :: rest))) : W p l e R s m args below meth c H locs cells slots Q (F0 m pc ls (.int i :: .ref a :: rest)) :=
  va_lald X.1 X.2.1 X.2.2.2.2.2.1.1 hW.1 q0 2 ha rfl hin hdg kk
theorem r_zald (X : CTX p l m meth c cc nL s args own g A) (hW : WD g A s H locs ws) (q0 : Nat) {n : Nat} {f : Nat → Int32} (ha : ws[q0]? = some (a, .inl (g.2.1 3, n, .inl f))) {i : Int32} (hin : vp_in i n) (hdg : decode cc pc = .ok (.baload, 1))
    (kk : W p l e R s m args below meth c H locs cells slots Q (F0 m (pc + 1) ls (.int (f i.toNatClampNeg) :: rest))) : W p l e R s m args below meth c H locs cells slots Q (F0 m pc ls (.int i :: .ref a :: rest)) :=
  va_zald X.1 X.2.1 X.2.2.2.2.2.1.1 hW.1 q0 3 ha rfl hin hdg kk
theorem r_iast (X : CTX p l m meth c cc nL s args own g A) (hW : WD g A s H locs ws) (q0 : Nat) {n : Nat} {f : Nat → Int32} (ha : ws[q0]? = some (a, .inl (g.2.1 1, n, .inl f))) {i x : Int32} (hin : vp_in i n) {f' : Nat → Int32} (hf' : upd f i.toNatClampNeg x = f') (hws : ws.set q0 (a, .inl (g.2.1 1, n, .inl f')) = ws') (hdg : decode cc pc = .ok (.iastore, 1))
    (kk : ∀ (H1 : Heap) (locs1 : List Loc), WD g A s H1 locs1 ws' → W p l e R s m args below meth c H1 locs1 cells slots Q (F0 m (pc + 1) ls rest)) : W p l e R s m args below meth c H locs cells slots Q (F0 m pc ls (.int x :: .int i :: .ref a :: rest)) := by
  subst hf' hws
  exact va_iast X.1 X.2.1 X.2.2.2.2.2.1.1 hW.1 hW.2.1 hW.2.2 q0 1 ha rfl hin hdg (fun H1 locs1 h1 h2 h3 => kk H1 locs1 ⟨h1, h2, h3⟩)
theorem r_bast (X : CTX p l m meth c cc nL s args own g A) (hW : WD g A s H locs ws) (q0 : Nat) {n : Nat} {f : Nat → Int32} (ha : ws[q0]? = some (a, .inl (g.2.1 0, n, .inl f))) {i x : Int32} (hin : vp_in i n) {f' : Nat → Int32} (hf' : upd f i.toNatClampNeg (vp_nar .byte x) = f') (hws : ws.set q0 (a, .inl (g.2.1 0, n, .inl f')) = ws') (hdg : decode cc pc = .ok (.bastore, 1))
    (kk : ∀ (H1 : Heap) (locs1 : List Loc), WD g A s H1 locs1 ws' → W p l e R s m args below meth c H1 locs1 cells slots Q (F0 m (pc + 1) ls rest)) : W p l e R s m args below meth c H locs cells slots Q (F0 m pc ls (.int x :: .int i :: .ref a :: rest)) := by
  subst hf' hws
  exact va_bast X.1 X.2.1 X.2.2.2.2.2.1.1 hW.1 hW.2.1 hW.2.2 q0 0 ha rfl hin hdg (fun H1 locs1 h1 h2 h3 => kk H1 locs1 ⟨h1, h2, h3⟩)
theorem r_zast (X : CTX p l m meth c cc nL s args own g A) (hW : WD g A s H locs ws) (q0 : Nat) {n : Nat} {f : Nat → Int32} (ha : ws[q0]? = some (a, .inl (g.2.1 3, n, .inl f))) {i x : Int32} (hin : vp_in i n) {f' : Nat → Int32} (hf' : upd f i.toNatClampNeg (vp_nar .boolean x) = f') (hws : ws.set q0 (a, .inl (g.2.1 3, n, .inl f')) = ws') (hdg : decode cc pc = .ok (.bastore, 1))
    (kk : ∀ (H1 : Heap) (locs1 : List Loc), WD g A s H1 locs1 ws' → W p l e R s m args below meth c H1 locs1 cells slots Q (F0 m (pc + 1) ls rest)) : W p l e R s m args below meth c H locs cells slots Q (F0 m pc ls (.int x :: .int i :: .ref a :: rest)) := by
  subst hf' hws
  exact va_zast X.1 X.2.1 X.2.2.2.2.2.1.1 hW.1 hW.2.1 hW.2.2 q0 3 ha rfl hin hdg (fun H1 locs1 h1 h2 h3 => kk H1 locs1 ⟨h1, h2, h3⟩)
theorem r_last (X : CTX p l m meth c cc nL s args own g A) (hW : WD g A s H locs ws) (q0 : Nat) {n : Nat} {f : Nat → Int64} (ha : ws[q0]? = some (a, .inl (g.2.1 2, n, .inr (.inl f)))) {i : Int32} {x : Int64} (hin : vp_in i n) {f' : Nat → Int64} (hf' : vp_updL f i.toNatClampNeg x = f') (hws : ws.set q0 (a, .inl (g.2.1 2, n, .inr (.inl f'))) = ws') (hdg : decode cc pc = .ok (.lastore, 1))
    (kk : ∀ (H1 : Heap) (locs1 : List Loc), WD g A s H1 locs1 ws' → W p l e R s m args below meth c H1 locs1 cells slots Q (F0 m (pc + 1) ls rest)) : W p l e R s m args below meth c H locs cells slots Q (F0 m pc ls (.long x :: .int i :: .ref a :: rest)) := by
  subst hf' hws
  exact va_last X.1 X.2.1 X.2.2.2.2.2.1.1 hW.1 hW.2.1 hW.2.2 q0 2 ha rfl hin hdg (fun H1 locs1 h1 h2 h3 => kk H1 locs1 ⟨h1, h2, h3⟩)
theorem r_alen (X : CTX p l m meth c cc nL s args own g A) (hW : WD g A s H locs ws) (q0 t0 : Nat) {cA : ClassId} {x : vp_A} (ha : ws[q0]? = some (a, .inl (cA, x))) {ty : FieldType} (ht : (TYS g)[t0]? = some (cA, ty)) {v : Int32} (hv : Int32.ofNat x.1 = v) (hdg : decode cc pc = .ok (.arraylength, 1))
    (kk : W p l e R s m args below meth c H locs cells slots Q (F0 m (pc + 1) ls (.int v :: rest))) : W p l e R s m args below meth c H locs cells slots Q (F0 m pc ls (.ref a :: rest)) :=
  va_alen X.1 X.2.1 X.2.2.2.2.2.1.1 hW.1 q0 t0 ha ht hv hdg kk
-- calls: the callee's cells are cut out, what comes back stands behind the rest
section
variable {y : MethodName} {bytes : ByteArray} {maxL n d mc ms index : Nat} {ret : Option FieldType} {wc wr : va_W} {As : List Value} {C host : String} {b : Addr} {stk : List Value}
theorem k_pre (X : CTX p l m meth c cc nL s args own g A) (hW : WD g A s H locs ws) (isC : List Nat) (hC : isC.map (fun i => ws[i]?) = wc.map some) (hnC : va_nd isC = true) (U : State) (hU : U.heap = H) (hWm : s.WarmedH U.vm) : PRE g wc H.size U := by
  have hF : ∀ q, va_A wc H.size q → A q := va_free hW.2.1 hW.2.2 X.2.2.2.2.2.2.2.1 isC hC
  have hP := (hW.pick isC hnC hC).1
  refine ⟨by rw [hU], by rw [hU]; exact hP, X.2.2.2.2.2.1.warm hWm, (hW.2.1.sub isC hnC hC).weaken (fun _ _ _ _ => trivial), ?_⟩
  rw [hU]
  exact ((X.2.2.2.2.2.2.1.moved hWm.alike).kept hW.2.2.2.1).narrow hF
theorem k_back (X : CTX p l m meth c cc nL s args own g A) (hW : WD g A s H locs ws) (isC isR : List Nat) (hC : isC.map (fun i => ws[i]?) = wc.map some) (hR : isR.map (fun i => ws[i]?) = wr.map some) (hn : va_nd isR = true) (hdis : isR.all (fun i => decide (i ∉ isC)) = true) {u : va_W} {t : State} {H1 : Heap} {locs1 : List Loc} (ht : t.heap = H1) (hB : BO g (va_A wc H.size) u t) (hk1 : ∀ q : Nat, q < H.size → ¬ va_A wc H.size q → H1[q]? = H[q]?) (hS : va_S A s.heap H1 locs1) : WD g A s H1 locs1 (wr ++ u) := by
  have hF : ∀ q, va_A wc H.size q → A q := va_free hW.2.1 hW.2.2 X.2.2.2.2.2.2.2.1 isC hC
  obtain ⟨h1, h2⟩ := hB
  rw [ht] at h1
  obtain ⟨h3, h4⟩ := va_join (wr := wr) (w1 := u) hW.1 hW.2.1 isC isR hC hR hn (fun i hi => of_decide_eq_true (List.all_eq_true.mp hdis i hi)) hk1 hF h1 h2
  exact ⟨h3, h4, hS⟩
theorem k_cwV (X : CTX p l m meth c cc nL s args own g A) (hV : LV own index C y bytes maxL ret n) (hR : d + 1 ≤ R.frames ∧ 8 + (maxL + 11) + 40 * d ≤ R.locals) : CallW R s args own C index y bytes maxL ret (WW y bytes maxL ret) (RM d mc ms) mc ms n := by
  obtain ⟨h1, h2, h3, h4, h5, h6, h7, h8, h9⟩ := hV
  exact cwV n X.2.2.2.2.1 (good_in fun w hw => by
    rcases List.mem_append.mp hw with hw | hw
    · simp only [List.mem_cons, List.not_mem_nil, or_false] at hw
      rcases hw with rfl | rfl | rfl | rfl <;> assumption
    · exact ((good_ww h5) w hw).1) rfl rfl rfl ⟨h6, h7, h8, h9⟩ hR
theorem k_cwS (X : CTX p l m meth c cc nL s args own g A) (hV : LST own index y bytes maxL ret n) (hR : d + 1 ≤ R.frames ∧ 8 + (maxL + 11) + 40 * d ≤ R.locals) : CallB R s args own index y bytes maxL ret (WW y bytes maxL ret) (RM d mc ms) mc ms n ∧ (Cond.static y).before args s = true := by
  obtain ⟨h1, h2, h3, h4, h6, h7, h8⟩ := hV
  exact va_cwS n X.2.2.2.2.1 (good_in fun w hw => by
    rcases List.mem_append.mp hw with hw | hw
    · simp only [List.mem_cons, List.not_mem_nil, or_false] at hw
      rcases hw with rfl | rfl | rfl <;> assumption
    · exact ((good_ww h4) w hw).1) rfl rfl rfl ⟨h6, h7, h8⟩ hR
theorem k_cwSN (X : CTX p l m meth c cc nL s args own g A) (hV : LSN own index host y bytes maxL ret n) (hR : d + 1 ≤ R.frames ∧ 8 + (maxL + 11) + 40 * d ≤ R.locals) : va_CN R s args own index y host bytes maxL ret (WW y bytes maxL ret) (RM d mc ms) mc ms n ∧ (Cond.static y).before args s = true ∧ True := by
  obtain ⟨h1, h2, h3, h4, h6, h7, h8⟩ := hV
  exact ⟨va_cnB n X.2.2.2.2.1 (good_ww h4) rfl rfl rfl (X.2.2.2.2.2.1.2.1 _ h1) (X.2.2.2.2.1 _ h3) ⟨h6, h7, h8⟩ hR, X.2.2.2.2.1 _ h2, trivial⟩
theorem k_cwI (X : CTX p l m meth c cc nL s args own g A) (hV : LI own index y bytes maxL n) (hR : d + 1 ≤ R.frames ∧ 8 + (maxL + 11) + 40 * d ≤ R.locals) : CallB R s args own index y bytes maxL none (WW y bytes maxL none) (RM d mc ms) mc ms n ∧ y.name = "<init>" ∧ (Cond.instanceMethod y).before args s = true := by
  obtain ⟨h1, h2, h3, h4, h5, h6, h7, h8⟩ := hV
  exact cwI n X.2.2.2.2.1 (good_ww h4) rfl rfl rfl (X.2.2.2.2.1 _ h3) (X.2.2.2.2.1 _ h1) (X.2.2.2.2.1 _ h2) h5 ⟨h6, h7, h8⟩ hR
theorem k_cwIN (X : CTX p l m meth c cc nL s args own g A) (hV : LIN own index host y bytes maxL n) (hR : d + 1 ≤ R.frames ∧ 8 + (maxL + 11) + 40 * d ≤ R.locals) : va_CN R s args own index y host bytes maxL none (WW y bytes maxL none) (RM d mc ms) mc ms n ∧ y.name = "<init>" ∧ (Cond.instanceMethod y).before args s = true := by
  obtain ⟨h1, h2, h3, h4, h5, h6, h7, h8⟩ := hV
  exact ⟨va_cnB n X.2.2.2.2.1 (good_ww h4) rfl rfl rfl (X.2.2.2.2.2.1.2.1 _ h1) (X.2.2.2.2.1 _ h3) ⟨h6, h7, h8⟩ hR, h5, X.2.2.2.2.1 _ h2⟩
theorem k_recv (X : CTX p l m meth c cc nL s args own g A) (hW : WD g A s H locs ws) (q0 : Nat) {ci : Nat} {fs : List Value} {T : u_T} {N : Nat} {ty : Nat → FieldType} (hc : CI ci C T N ty) (he : ws[q0]? = some (b, .inr (ci, fs))) : ∃ cell : Cell, H[b]? = some cell ∧ cell.vm.isStatics = false ∧ s.vm.findClass C = some cell.cls := va_recv X.2.2.2.2.2.1.1 hW.1 hc.1 he
theorem c_Vi (X : CTX p l m meth c cc nL s args own g A) (hW : WD g A s H locs ws) (q0 : Nat) {ci : Nat} {fs : List Value} {T : u_T} {N : Nat} {ty : Nat → FieldType} (hc : CI ci C T N ty) (he : ws[q0]? = some (b, .inr (ci, fs))) {post : Int32 → va_W → Prop} (hM : MetI l g y bytes maxL ret d mc ms (.ref b :: As) wc post) (hV : LV own index C y bytes maxL ret n) (isC isR : List Nat) (hC : isC.map (fun i => ws[i]?) = wc.map some) (hnC : va_nd isC = true) (hR : isR.map (fun i => ws[i]?) = wr.map some) (hnR : va_nd isR = true) (hdis : isR.all (fun i => decide (i ∉ isC)) = true) (hn : As.length = n) (hls : ls.size = nL) (hstk : stk = As.reverse ++ .ref b :: rest) (hroom : (rest.map fun v => v.category).sum ≤ 8) (hRm : d + 1 ≤ R.frames ∧ 8 + (maxL + 11) + 40 * d ≤ R.locals) (hf : cells + mc ≤ R.cells ∧ slots + ms ≤ R.slots) (hdg : decode cc pc = .ok (.invokevirtual index, 3))
    (kk : ∀ (r : Int32) (u : va_W) (H1 : Heap) (locs1 : List Loc), post r u → WD g A s H1 locs1 (wr ++ u) → W p l e R s m args below meth c H1 locs1 (cells + mc) (slots + ms) Q (F0 m (pc + 3) ls (.int r :: rest))) : W p l e R s m args below meth c H locs cells slots Q (F0 m pc ls stk) := by
  have hF : ∀ q, va_A wc H.size q → A q := va_free hW.2.1 hW.2.2 X.2.2.2.2.2.2.2.1 isC hC
  exact va_calli (va_runV (As := As) (rest := rest) ⟨X.1, X.2.1, X.2.2.1, X.2.2.2.1, X.2.2.2.2.1⟩ (hM H.size) (k_cwV X hV hRm) ⟨PRE.blind, k_recv X hW q0 hc he, fun U hU hWm => ⟨rfl, k_pre X hW isC hC hnC U hU hWm⟩⟩ rfl hn hls hstk (lv_room hroom) hdg hf) hW.2.2 (fun q _ h => hF q h) hF (fun r u t H1 locs1 ht _ hp hB _ hk1 hS => kk r u H1 locs1 hp (k_back X hW isC isR hC hR hnR hdis ht hB hk1 hS))
theorem c_Si (X : CTX p l m meth c cc nL s args own g A) (hW : WD g A s H locs ws) {post : Int32 → va_W → Prop} (hM : MetI l g y bytes maxL ret d mc ms As wc post) (hV : LST own index y bytes maxL ret n) (isC isR : List Nat) (hC : isC.map (fun i => ws[i]?) = wc.map some) (hnC : va_nd isC = true) (hR : isR.map (fun i => ws[i]?) = wr.map some) (hnR : va_nd isR = true) (hdis : isR.all (fun i => decide (i ∉ isC)) = true) (hn : As.length = n) (hls : ls.size = nL) (hstk : stk = As.reverse ++ rest) (hroom : (rest.map fun v => v.category).sum ≤ 8) (hRm : d + 1 ≤ R.frames ∧ 8 + (maxL + 11) + 40 * d ≤ R.locals) (hf : cells + mc ≤ R.cells ∧ slots + ms ≤ R.slots) (hdg : decode cc pc = .ok (.invokestatic index, 3))
    (kk : ∀ (r : Int32) (u : va_W) (H1 : Heap) (locs1 : List Loc), post r u → WD g A s H1 locs1 (wr ++ u) → W p l e R s m args below meth c H1 locs1 (cells + mc) (slots + ms) Q (F0 m (pc + 3) ls (.int r :: rest))) : W p l e R s m args below meth c H locs cells slots Q (F0 m pc ls stk) := by
  have hF : ∀ q, va_A wc H.size q → A q := va_free hW.2.1 hW.2.2 X.2.2.2.2.2.2.2.1 isC hC
  exact va_calli (va_runS (As := As) (rest := rest) ⟨X.1, X.2.1, X.2.2.1, X.2.2.2.1, X.2.2.2.2.1⟩ (hM H.size) (k_cwS X hV hRm) ⟨PRE.blind, fun U hU hWm => ⟨rfl, k_pre X hW isC hC hnC U hU hWm⟩⟩ rfl hn hls hstk (lv_room hroom) hdg hf) hW.2.2 (fun q _ h => hF q h) hF (fun r u t H1 locs1 ht _ hp hB _ hk1 hS => kk r u H1 locs1 hp (k_back X hW isC isR hC hR hnR hdis ht hB hk1 hS))
theorem c_SNi (X : CTX p l m meth c cc nL s args own g A) (hW : WD g A s H locs ws) {post : Int32 → va_W → Prop} (hM : MetI l g y bytes maxL ret d mc ms As wc post) (hV : LSN own index host y bytes maxL ret n) (isC isR : List Nat) (hC : isC.map (fun i => ws[i]?) = wc.map some) (hnC : va_nd isC = true) (hR : isR.map (fun i => ws[i]?) = wr.map some) (hnR : va_nd isR = true) (hdis : isR.all (fun i => decide (i ∉ isC)) = true) (hn : As.length = n) (hls : ls.size = nL) (hstk : stk = As.reverse ++ rest) (hroom : (rest.map fun v => v.category).sum ≤ 8) (hRm : d + 1 ≤ R.frames ∧ 8 + (maxL + 11) + 40 * d ≤ R.locals) (hf : cells + mc ≤ R.cells ∧ slots + ms ≤ R.slots) (hdg : decode cc pc = .ok (.invokestatic index, 3))
    (kk : ∀ (r : Int32) (u : va_W) (H1 : Heap) (locs1 : List Loc), post r u → WD g A s H1 locs1 (wr ++ u) → W p l e R s m args below meth c H1 locs1 (cells + mc) (slots + ms) Q (F0 m (pc + 3) ls (.int r :: rest))) : W p l e R s m args below meth c H locs cells slots Q (F0 m pc ls stk) := by
  have hF : ∀ q, va_A wc H.size q → A q := va_free hW.2.1 hW.2.2 X.2.2.2.2.2.2.2.1 isC hC
  exact va_calli (va_runSN (As := As) (rest := rest) ⟨X.1, X.2.1, X.2.2.1, X.2.2.2.1, X.2.2.2.2.1⟩ (hM H.size) (k_cwSN X hV hRm) ⟨PRE.blind, fun U hU hWm => ⟨rfl, k_pre X hW isC hC hnC U hU hWm⟩⟩ rfl hn hls hstk (lv_room hroom) hdg hf) hW.2.2 (fun q _ h => hF q h) hF (fun r u t H1 locs1 ht _ hp hB _ hk1 hS => kk r u H1 locs1 hp (k_back X hW isC isR hC hR hnR hdis ht hB hk1 hS))
theorem c_Vl (X : CTX p l m meth c cc nL s args own g A) (hW : WD g A s H locs ws) (q0 : Nat) {ci : Nat} {fs : List Value} {T : u_T} {N : Nat} {ty : Nat → FieldType} (hc : CI ci C T N ty) (he : ws[q0]? = some (b, .inr (ci, fs))) {post : Int64 → va_W → Prop} (hM : MetL l g y bytes maxL ret d mc ms (.ref b :: As) wc post) (hV : LV own index C y bytes maxL ret n) (isC isR : List Nat) (hC : isC.map (fun i => ws[i]?) = wc.map some) (hnC : va_nd isC = true) (hR : isR.map (fun i => ws[i]?) = wr.map some) (hnR : va_nd isR = true) (hdis : isR.all (fun i => decide (i ∉ isC)) = true) (hn : As.length = n) (hls : ls.size = nL) (hstk : stk = As.reverse ++ .ref b :: rest) (hroom : (rest.map fun v => v.category).sum ≤ 8) (hRm : d + 1 ≤ R.frames ∧ 8 + (maxL + 11) + 40 * d ≤ R.locals) (hf : cells + mc ≤ R.cells ∧ slots + ms ≤ R.slots) (hdg : decode cc pc = .ok (.invokevirtual index, 3))
    (kk : ∀ (r : Int64) (u : va_W) (H1 : Heap) (locs1 : List Loc), post r u → WD g A s H1 locs1 (wr ++ u) → W p l e R s m args below meth c H1 locs1 (cells + mc) (slots + ms) Q (F0 m (pc + 3) ls (.long r :: rest))) : W p l e R s m args below meth c H locs cells slots Q (F0 m pc ls stk) := by
  have hF : ∀ q, va_A wc H.size q → A q := va_free hW.2.1 hW.2.2 X.2.2.2.2.2.2.2.1 isC hC
  exact va_calll (va_runV (As := As) (rest := rest) ⟨X.1, X.2.1, X.2.2.1, X.2.2.2.1, X.2.2.2.2.1⟩ (hM H.size) (k_cwV X hV hRm) ⟨PRE.blind, k_recv X hW q0 hc he, fun U hU hWm => ⟨rfl, k_pre X hW isC hC hnC U hU hWm⟩⟩ rfl hn hls hstk (lv_room hroom) hdg hf) hW.2.2 (fun q _ h => hF q h) hF (fun r u t H1 locs1 ht _ hp hB _ hk1 hS => kk r u H1 locs1 hp (k_back X hW isC isR hC hR hnR hdis ht hB hk1 hS))
theorem c_Sl (X : CTX p l m meth c cc nL s args own g A) (hW : WD g A s H locs ws) {post : Int64 → va_W → Prop} (hM : MetL l g y bytes maxL ret d mc ms As wc post) (hV : LST own index y bytes maxL ret n) (isC isR : List Nat) (hC : isC.map (fun i => ws[i]?) = wc.map some) (hnC : va_nd isC = true) (hR : isR.map (fun i => ws[i]?) = wr.map some) (hnR : va_nd isR = true) (hdis : isR.all (fun i => decide (i ∉ isC)) = true) (hn : As.length = n) (hls : ls.size = nL) (hstk : stk = As.reverse ++ rest) (hroom : (rest.map fun v => v.category).sum ≤ 8) (hRm : d + 1 ≤ R.frames ∧ 8 + (maxL + 11) + 40 * d ≤ R.locals) (hf : cells + mc ≤ R.cells ∧ slots + ms ≤ R.slots) (hdg : decode cc pc = .ok (.invokestatic index, 3))
    (kk : ∀ (r : Int64) (u : va_W) (H1 : Heap) (locs1 : List Loc), post r u → WD g A s H1 locs1 (wr ++ u) → W p l e R s m args below meth c H1 locs1 (cells + mc) (slots + ms) Q (F0 m (pc + 3) ls (.long r :: rest))) : W p l e R s m args below meth c H locs cells slots Q (F0 m pc ls stk) := by
  have hF : ∀ q, va_A wc H.size q → A q := va_free hW.2.1 hW.2.2 X.2.2.2.2.2.2.2.1 isC hC
  exact va_calll (va_runS (As := As) (rest := rest) ⟨X.1, X.2.1, X.2.2.1, X.2.2.2.1, X.2.2.2.2.1⟩ (hM H.size) (k_cwS X hV hRm) ⟨PRE.blind, fun U hU hWm => ⟨rfl, k_pre X hW isC hC hnC U hU hWm⟩⟩ rfl hn hls hstk (lv_room hroom) hdg hf) hW.2.2 (fun q _ h => hF q h) hF (fun r u t H1 locs1 ht _ hp hB _ hk1 hS => kk r u H1 locs1 hp (k_back X hW isC isR hC hR hnR hdis ht hB hk1 hS))
theorem c_SNl (X : CTX p l m meth c cc nL s args own g A) (hW : WD g A s H locs ws) {post : Int64 → va_W → Prop} (hM : MetL l g y bytes maxL ret d mc ms As wc post) (hV : LSN own index host y bytes maxL ret n) (isC isR : List Nat) (hC : isC.map (fun i => ws[i]?) = wc.map some) (hnC : va_nd isC = true) (hR : isR.map (fun i => ws[i]?) = wr.map some) (hnR : va_nd isR = true) (hdis : isR.all (fun i => decide (i ∉ isC)) = true) (hn : As.length = n) (hls : ls.size = nL) (hstk : stk = As.reverse ++ rest) (hroom : (rest.map fun v => v.category).sum ≤ 8) (hRm : d + 1 ≤ R.frames ∧ 8 + (maxL + 11) + 40 * d ≤ R.locals) (hf : cells + mc ≤ R.cells ∧ slots + ms ≤ R.slots) (hdg : decode cc pc = .ok (.invokestatic index, 3))
    (kk : ∀ (r : Int64) (u : va_W) (H1 : Heap) (locs1 : List Loc), post r u → WD g A s H1 locs1 (wr ++ u) → W p l e R s m args below meth c H1 locs1 (cells + mc) (slots + ms) Q (F0 m (pc + 3) ls (.long r :: rest))) : W p l e R s m args below meth c H locs cells slots Q (F0 m pc ls stk) := by
  have hF : ∀ q, va_A wc H.size q → A q := va_free hW.2.1 hW.2.2 X.2.2.2.2.2.2.2.1 isC hC
  exact va_calll (va_runSN (As := As) (rest := rest) ⟨X.1, X.2.1, X.2.2.1, X.2.2.2.1, X.2.2.2.2.1⟩ (hM H.size) (k_cwSN X hV hRm) ⟨PRE.blind, fun U hU hWm => ⟨rfl, k_pre X hW isC hC hnC U hU hWm⟩⟩ rfl hn hls hstk (lv_room hroom) hdg hf) hW.2.2 (fun q _ h => hF q h) hF (fun r u t H1 locs1 ht _ hp hB _ hk1 hS => kk r u H1 locs1 hp (k_back X hW isC isR hC hR hnR hdis ht hB hk1 hS))
theorem c_Vv (X : CTX p l m meth c cc nL s args own g A) (hW : WD g A s H locs ws) (q0 : Nat) {ci : Nat} {fs : List Value} {T : u_T} {N : Nat} {ty : Nat → FieldType} (hc : CI ci C T N ty) (he : ws[q0]? = some (b, .inr (ci, fs))) {post : va_W → Prop} (hM : MetV l g y bytes maxL ret d mc ms (.ref b :: As) wc post) (hV : LV own index C y bytes maxL ret n) (isC isR : List Nat) (hC : isC.map (fun i => ws[i]?) = wc.map some) (hnC : va_nd isC = true) (hR : isR.map (fun i => ws[i]?) = wr.map some) (hnR : va_nd isR = true) (hdis : isR.all (fun i => decide (i ∉ isC)) = true) (hn : As.length = n) (hls : ls.size = nL) (hstk : stk = As.reverse ++ .ref b :: rest) (hroom : (rest.map fun v => v.category).sum ≤ 8) (hRm : d + 1 ≤ R.frames ∧ 8 + (maxL + 11) + 40 * d ≤ R.locals) (hf : cells + mc ≤ R.cells ∧ slots + ms ≤ R.slots) (hdg : decode cc pc = .ok (.invokevirtual index, 3))
    (kk : ∀ (u : va_W) (H1 : Heap) (locs1 : List Loc), post u → WD g A s H1 locs1 (wr ++ u) → W p l e R s m args below meth c H1 locs1 (cells + mc) (slots + ms) Q (F0 m (pc + 3) ls (rest))) : W p l e R s m args below meth c H locs cells slots Q (F0 m pc ls stk) := by
  have hF : ∀ q, va_A wc H.size q → A q := va_free hW.2.1 hW.2.2 X.2.2.2.2.2.2.2.1 isC hC
  exact va_callv (va_runV (As := As) (rest := rest) ⟨X.1, X.2.1, X.2.2.1, X.2.2.2.1, X.2.2.2.2.1⟩ (hM H.size) (k_cwV X hV hRm) ⟨PRE.blind, k_recv X hW q0 hc he, fun U hU hWm => ⟨rfl, k_pre X hW isC hC hnC U hU hWm⟩⟩ rfl hn hls hstk (lv_room hroom) hdg hf) hW.2.2 (fun q _ h => hF q h) hF (fun u t H1 locs1 ht _ hp hB _ hk1 hS => kk u H1 locs1 hp (k_back X hW isC isR hC hR hnR hdis ht hB hk1 hS))
theorem c_Sv (X : CTX p l m meth c cc nL s args own g A) (hW : WD g A s H locs ws) {post : va_W → Prop} (hM : MetV l g y bytes maxL ret d mc ms As wc post) (hV : LST own index y bytes maxL ret n) (isC isR : List Nat) (hC : isC.map (fun i => ws[i]?) = wc.map some) (hnC : va_nd isC = true) (hR : isR.map (fun i => ws[i]?) = wr.map some) (hnR : va_nd isR = true) (hdis : isR.all (fun i => decide (i ∉ isC)) = true) (hn : As.length = n) (hls : ls.size = nL) (hstk : stk = As.reverse ++ rest) (hroom : (rest.map fun v => v.category).sum ≤ 8) (hRm : d + 1 ≤ R.frames ∧ 8 + (maxL + 11) + 40 * d ≤ R.locals) (hf : cells + mc ≤ R.cells ∧ slots + ms ≤ R.slots) (hdg : decode cc pc = .ok (.invokestatic index, 3))
    (kk : ∀ (u : va_W) (H1 : Heap) (locs1 : List Loc), post u → WD g A s H1 locs1 (wr ++ u) → W p l e R s m args below meth c H1 locs1 (cells + mc) (slots + ms) Q (F0 m (pc + 3) ls (rest))) : W p l e R s m args below meth c H locs cells slots Q (F0 m pc ls stk) := by
  have hF : ∀ q, va_A wc H.size q → A q := va_free hW.2.1 hW.2.2 X.2.2.2.2.2.2.2.1 isC hC
  exact va_callv (va_runS (As := As) (rest := rest) ⟨X.1, X.2.1, X.2.2.1, X.2.2.2.1, X.2.2.2.2.1⟩ (hM H.size) (k_cwS X hV hRm) ⟨PRE.blind, fun U hU hWm => ⟨rfl, k_pre X hW isC hC hnC U hU hWm⟩⟩ rfl hn hls hstk (lv_room hroom) hdg hf) hW.2.2 (fun q _ h => hF q h) hF (fun u t H1 locs1 ht _ hp hB _ hk1 hS => kk u H1 locs1 hp (k_back X hW isC isR hC hR hnR hdis ht hB hk1 hS))
theorem c_SNv (X : CTX p l m meth c cc nL s args own g A) (hW : WD g A s H locs ws) {post : va_W → Prop} (hM : MetV l g y bytes maxL ret d mc ms As wc post) (hV : LSN own index host y bytes maxL ret n) (isC isR : List Nat) (hC : isC.map (fun i => ws[i]?) = wc.map some) (hnC : va_nd isC = true) (hR : isR.map (fun i => ws[i]?) = wr.map some) (hnR : va_nd isR = true) (hdis : isR.all (fun i => decide (i ∉ isC)) = true) (hn : As.length = n) (hls : ls.size = nL) (hstk : stk = As.reverse ++ rest) (hroom : (rest.map fun v => v.category).sum ≤ 8) (hRm : d + 1 ≤ R.frames ∧ 8 + (maxL + 11) + 40 * d ≤ R.locals) (hf : cells + mc ≤ R.cells ∧ slots + ms ≤ R.slots) (hdg : decode cc pc = .ok (.invokestatic index, 3))
    (kk : ∀ (u : va_W) (H1 : Heap) (locs1 : List Loc), post u → WD g A s H1 locs1 (wr ++ u) → W p l e R s m args below meth c H1 locs1 (cells + mc) (slots + ms) Q (F0 m (pc + 3) ls (rest))) : W p l e R s m args below meth c H locs cells slots Q (F0 m pc ls stk) := by
  have hF : ∀ q, va_A wc H.size q → A q := va_free hW.2.1 hW.2.2 X.2.2.2.2.2.2.2.1 isC hC
  exact va_callv (va_runSN (As := As) (rest := rest) ⟨X.1, X.2.1, X.2.2.1, X.2.2.2.1, X.2.2.2.2.1⟩ (hM H.size) (k_cwSN X hV hRm) ⟨PRE.blind, fun U hU hWm => ⟨rfl, k_pre X hW isC hC hnC U hU hWm⟩⟩ rfl hn hls hstk (lv_room hroom) hdg hf) hW.2.2 (fun q _ h => hF q h) hF (fun u t H1 locs1 ht _ hp hB _ hk1 hS => kk u H1 locs1 hp (k_back X hW isC isR hC hR hnR hdis ht hB hk1 hS))
theorem c_Iv (X : CTX p l m meth c cc nL s args own g A) (hW : WD g A s H locs ws) {post : va_W → Prop} (hM : MetV l g y bytes maxL none d mc ms (.ref b :: As) wc post) (hV : LI own index y bytes maxL n) (isC isR : List Nat) (hC : isC.map (fun i => ws[i]?) = wc.map some) (hnC : va_nd isC = true) (hR : isR.map (fun i => ws[i]?) = wr.map some) (hnR : va_nd isR = true) (hdis : isR.all (fun i => decide (i ∉ isC)) = true) (hn : As.length = n) (hls : ls.size = nL) (hstk : stk = As.reverse ++ .ref b :: rest) (hroom : (rest.map fun v => v.category).sum ≤ 8) (hRm : d + 1 ≤ R.frames ∧ 8 + (maxL + 11) + 40 * d ≤ R.locals) (hf : cells + mc ≤ R.cells ∧ slots + ms ≤ R.slots) (hdg : decode cc pc = .ok (.invokespecial index, 3))
    (kk : ∀ (u : va_W) (H1 : Heap) (locs1 : List Loc), post u → WD g A s H1 locs1 (wr ++ u) → W p l e R s m args below meth c H1 locs1 (cells + mc) (slots + ms) Q (F0 m (pc + 3) ls (rest))) : W p l e R s m args below meth c H locs cells slots Q (F0 m pc ls stk) := by
  have hF : ∀ q, va_A wc H.size q → A q := va_free hW.2.1 hW.2.2 X.2.2.2.2.2.2.2.1 isC hC
  exact va_callv (va_runI (As := As) (rest := rest) ⟨X.1, X.2.1, X.2.2.1, X.2.2.2.1, X.2.2.2.2.1⟩ (hM H.size) (k_cwI X hV hRm) ⟨PRE.blind, fun U hU hWm => ⟨rfl, k_pre X hW isC hC hnC U hU hWm⟩⟩ rfl hn hls hstk (lv_room hroom) hdg hf) hW.2.2 (fun q _ h => hF q h) hF (fun u t H1 locs1 ht _ hp hB _ hk1 hS => kk u H1 locs1 hp (k_back X hW isC isR hC hR hnR hdis ht hB hk1 hS))
theorem c_INv (X : CTX p l m meth c cc nL s args own g A) (hW : WD g A s H locs ws) {post : va_W → Prop} (hM : MetV l g y bytes maxL none d mc ms (.ref b :: As) wc post) (hV : LIN own index host y bytes maxL n) (isC isR : List Nat) (hC : isC.map (fun i => ws[i]?) = wc.map some) (hnC : va_nd isC = true) (hR : isR.map (fun i => ws[i]?) = wr.map some) (hnR : va_nd isR = true) (hdis : isR.all (fun i => decide (i ∉ isC)) = true) (hn : As.length = n) (hls : ls.size = nL) (hstk : stk = As.reverse ++ .ref b :: rest) (hroom : (rest.map fun v => v.category).sum ≤ 8) (hRm : d + 1 ≤ R.frames ∧ 8 + (maxL + 11) + 40 * d ≤ R.locals) (hf : cells + mc ≤ R.cells ∧ slots + ms ≤ R.slots) (hdg : decode cc pc = .ok (.invokespecial index, 3))
    (kk : ∀ (u : va_W) (H1 : Heap) (locs1 : List Loc), post u → WD g A s H1 locs1 (wr ++ u) → W p l e R s m args below meth c H1 locs1 (cells + mc) (slots + ms) Q (F0 m (pc + 3) ls (rest))) : W p l e R s m args below meth c H locs cells slots Q (F0 m pc ls stk) := by
  have hF : ∀ q, va_A wc H.size q → A q := va_free hW.2.1 hW.2.2 X.2.2.2.2.2.2.2.1 isC hC
  exact va_callv (va_runIN (As := As) (rest := rest) ⟨X.1, X.2.1, X.2.2.1, X.2.2.2.1, X.2.2.2.2.1⟩ (hM H.size) (k_cwIN X hV hRm) ⟨PRE.blind, fun U hU hWm => ⟨rfl, k_pre X hW isC hC hnC U hU hWm⟩⟩ rfl hn hls hstk (lv_room hroom) hdg hf) hW.2.2 (fun q _ h => hF q h) hF (fun u t H1 locs1 ht _ hp hB _ hk1 hS => kk u H1 locs1 hp (k_back X hW isC isR hC hR hnR hdis ht hB hk1 hS))
theorem c_Vq (X : CTX p l m meth c cc nL s args own g A) (hW : WD g A s H locs ws) (q0 : Nat) {ci : Nat} {fs : List Value} {T : u_T} {N : Nat} {ty : Nat → FieldType} (hc : CI ci C T N ty) (he : ws[q0]? = some (b, .inr (ci, fs))) {post : Option Nat → va_W → Prop} (hM : MetQ l g y bytes maxL ret d mc ms (.ref b :: As) wc post) (hV : LV own index C y bytes maxL ret n) (isC isR : List Nat) (hC : isC.map (fun i => ws[i]?) = wc.map some) (hnC : va_nd isC = true) (hR : isR.map (fun i => ws[i]?) = wr.map some) (hnR : va_nd isR = true) (hdis : isR.all (fun i => decide (i ∉ isC)) = true) (hn : As.length = n) (hls : ls.size = nL) (hstk : stk = As.reverse ++ .ref b :: rest) (hroom : (rest.map fun v => v.category).sum ≤ 8) (hRm : d + 1 ≤ R.frames ∧ 8 + (maxL + 11) + 40 * d ≤ R.locals) (hf : cells + mc ≤ R.cells ∧ slots + ms ≤ R.slots) (hdg : decode cc pc = .ok (.invokevirtual index, 3))
    (kk : ∀ (r : Option Nat) (u : va_W) (H1 : Heap) (locs1 : List Loc), post r u → WD g A s H1 locs1 (wr ++ u) → W p l e R s m args below meth c H1 locs1 (cells + mc) (slots + ms) Q (F0 m (pc + 3) ls (va_rf r :: rest))) : W p l e R s m args below meth c H locs cells slots Q (F0 m pc ls stk) := by
  have hF : ∀ q, va_A wc H.size q → A q := va_free hW.2.1 hW.2.2 X.2.2.2.2.2.2.2.1 isC hC
  exact va_callq (va_runV (As := As) (rest := rest) ⟨X.1, X.2.1, X.2.2.1, X.2.2.2.1, X.2.2.2.2.1⟩ (hM H.size) (k_cwV X hV hRm) ⟨PRE.blind, k_recv X hW q0 hc he, fun U hU hWm => ⟨rfl, k_pre X hW isC hC hnC U hU hWm⟩⟩ rfl hn hls hstk (lv_room hroom) hdg hf) hW.2.2 (fun q _ h => hF q h) hF (fun r u t H1 locs1 ht _ hp hB _ hk1 hS => kk r u H1 locs1 hp (k_back X hW isC isR hC hR hnR hdis ht hB hk1 hS))
theorem c_Sq (X : CTX p l m meth c cc nL s args own g A) (hW : WD g A s H locs ws) {post : Option Nat → va_W → Prop} (hM : MetQ l g y bytes maxL ret d mc ms As wc post) (hV : LST own index y bytes maxL ret n) (isC isR : List Nat) (hC : isC.map (fun i => ws[i]?) = wc.map some) (hnC : va_nd isC = true) (hR : isR.map (fun i => ws[i]?) = wr.map some) (hnR : va_nd isR = true) (hdis : isR.all (fun i => decide (i ∉ isC)) = true) (hn : As.length = n) (hls : ls.size = nL) (hstk : stk = As.reverse ++ rest) (hroom : (rest.map fun v => v.category).sum ≤ 8) (hRm : d + 1 ≤ R.frames ∧ 8 + (maxL + 11) + 40 * d ≤ R.locals) (hf : cells + mc ≤ R.cells ∧ slots + ms ≤ R.slots) (hdg : decode cc pc = .ok (.invokestatic index, 3))
    (kk : ∀ (r : Option Nat) (u : va_W) (H1 : Heap) (locs1 : List Loc), post r u → WD g A s H1 locs1 (wr ++ u) → W p l e R s m args below meth c H1 locs1 (cells + mc) (slots + ms) Q (F0 m (pc + 3) ls (va_rf r :: rest))) : W p l e R s m args below meth c H locs cells slots Q (F0 m pc ls stk) := by
  have hF : ∀ q, va_A wc H.size q → A q := va_free hW.2.1 hW.2.2 X.2.2.2.2.2.2.2.1 isC hC
  exact va_callq (va_runS (As := As) (rest := rest) ⟨X.1, X.2.1, X.2.2.1, X.2.2.2.1, X.2.2.2.2.1⟩ (hM H.size) (k_cwS X hV hRm) ⟨PRE.blind, fun U hU hWm => ⟨rfl, k_pre X hW isC hC hnC U hU hWm⟩⟩ rfl hn hls hstk (lv_room hroom) hdg hf) hW.2.2 (fun q _ h => hF q h) hF (fun r u t H1 locs1 ht _ hp hB _ hk1 hS => kk r u H1 locs1 hp (k_back X hW isC isR hC hR hnR hdis ht hB hk1 hS))
theorem c_SNq (X : CTX p l m meth c cc nL s args own g A) (hW : WD g A s H locs ws) {post : Option Nat → va_W → Prop} (hM : MetQ l g y bytes maxL ret d mc ms As wc post) (hV : LSN own index host y bytes maxL ret n) (isC isR : List Nat) (hC : isC.map (fun i => ws[i]?) = wc.map some) (hnC : va_nd isC = true) (hR : isR.map (fun i => ws[i]?) = wr.map some) (hnR : va_nd isR = true) (hdis : isR.all (fun i => decide (i ∉ isC)) = true) (hn : As.length = n) (hls : ls.size = nL) (hstk : stk = As.reverse ++ rest) (hroom : (rest.map fun v => v.category).sum ≤ 8) (hRm : d + 1 ≤ R.frames ∧ 8 + (maxL + 11) + 40 * d ≤ R.locals) (hf : cells + mc ≤ R.cells ∧ slots + ms ≤ R.slots) (hdg : decode cc pc = .ok (.invokestatic index, 3))
    (kk : ∀ (r : Option Nat) (u : va_W) (H1 : Heap) (locs1 : List Loc), post r u → WD g A s H1 locs1 (wr ++ u) → W p l e R s m args below meth c H1 locs1 (cells + mc) (slots + ms) Q (F0 m (pc + 3) ls (va_rf r :: rest))) : W p l e R s m args below meth c H locs cells slots Q (F0 m pc ls stk) := by
  have hF : ∀ q, va_A wc H.size q → A q := va_free hW.2.1 hW.2.2 X.2.2.2.2.2.2.2.1 isC hC
  exact va_callq (va_runSN (As := As) (rest := rest) ⟨X.1, X.2.1, X.2.2.1, X.2.2.2.1, X.2.2.2.2.1⟩ (hM H.size) (k_cwSN X hV hRm) ⟨PRE.blind, fun U hU hWm => ⟨rfl, k_pre X hW isC hC hnC U hU hWm⟩⟩ rfl hn hls hstk (lv_room hroom) hdg hf) hW.2.2 (fun q _ h => hF q h) hF (fun r u t H1 locs1 ht _ hp hB _ hk1 hS => kk r u H1 locs1 hp (k_back X hW isC isR hC hR hnR hdis ht hB hk1 hS))
end
-- ends
theorem e_i (X : CTX p l m meth c cc nL s args own g A) {post : Int32 → va_W → Prop} {mc ms : Nat} (hQ : MQ below (va_Qi post (BO g A) A) args s mc ms A = Q) (hr : meth.sig.returnType = some .int) (hW : WD g A s H locs ws) {v : Int32} (is : List Nat) {u : va_W} (hn : va_nd is = true) (hu : is.map (fun i => ws[i]?) = u.map some) (hp : post v u) (hf : cells ≤ mc ∧ slots ≤ ms) (hdg : decode cc pc = .ok (.ireturn, 1)) : W p l e R s m args below meth c H locs cells slots Q (F0 m pc ls [.int v]) := by
  subst hQ
  have h1 := hW.pick is hn hu
  refine W.widen hf.1 hf.2 ?_
  exact W.iret X.1 X.2.1 hr (fun t ht _ => ⟨⟨v, u, rfl, hp, by rw [ht]; exact h1.1, h1.2.1⟩, hW.2.2.F ht⟩) hW.2.2.2.2 hdg X.2.2.2.2.2.2.2.2
theorem e_z (X : CTX p l m meth c cc nL s args own g A) {post : Int32 → va_W → Prop} {mc ms : Nat} (hQ : MQ below (va_Qi post (BO g A) A) args s mc ms A = Q) (hr : meth.sig.returnType = some .boolean) (hW : WD g A s H locs ws) {v : Int32} (hz : narrow .boolean (.int v) = .int v) (is : List Nat) {u : va_W} (hn : va_nd is = true) (hu : is.map (fun i => ws[i]?) = u.map some) (hp : post v u) (hf : cells ≤ mc ∧ slots ≤ ms) (hdg : decode cc pc = .ok (.ireturn, 1)) : W p l e R s m args below meth c H locs cells slots Q (F0 m pc ls [.int v]) := by
  subst hQ
  have h1 := hW.pick is hn hu
  refine W.widen hf.1 hf.2 ?_
  exact W.zret X.1 X.2.1 hr hz (fun t ht _ => ⟨⟨v, u, rfl, hp, by rw [ht]; exact h1.1, h1.2.1⟩, hW.2.2.F ht⟩) hW.2.2.2.2 hdg X.2.2.2.2.2.2.2.2
theorem e_l (X : CTX p l m meth c cc nL s args own g A) {post : Int64 → va_W → Prop} {mc ms : Nat} (hQ : MQ below (va_Ql post (BO g A) A) args s mc ms A = Q) (hr : meth.sig.returnType = some .long) (hW : WD g A s H locs ws) {v : Int64} (is : List Nat) {u : va_W} (hn : va_nd is = true) (hu : is.map (fun i => ws[i]?) = u.map some) (hp : post v u) (hf : cells ≤ mc ∧ slots ≤ ms) (hdg : decode cc pc = .ok (.lreturn, 1)) : W p l e R s m args below meth c H locs cells slots Q (F0 m pc ls [.long v]) := by
  subst hQ
  have h1 := hW.pick is hn hu
  refine W.widen hf.1 hf.2 ?_
  exact W.lret X.1 X.2.1 hr (fun t ht _ => ⟨⟨v, u, rfl, hp, by rw [ht]; exact h1.1, h1.2.1⟩, hW.2.2.F ht⟩) hW.2.2.2.2 hdg X.2.2.2.2.2.2.2.2
theorem e_v (X : CTX p l m meth c cc nL s args own g A) {post : va_W → Prop} {mc ms : Nat} (hQ : MQ below (va_Qv post (BO g A) A) args s mc ms A = Q) (hr : meth.sig.returnType = none) (hW : WD g A s H locs ws) (is : List Nat) {u : va_W} (hn : va_nd is = true) (hu : is.map (fun i => ws[i]?) = u.map some) (hp : post u) (hf : cells ≤ mc ∧ slots ≤ ms) (hdg : decode cc pc = .ok (.return_, 1)) : W p l e R s m args below meth c H locs cells slots Q (F0 m pc ls []) := by
  subst hQ
  have h1 := hW.pick is hn hu
  refine W.widen hf.1 hf.2 ?_
  exact W.vret X.1 X.2.1 hr (fun t ht _ => ⟨⟨u, rfl, hp, by rw [ht]; exact h1.1, h1.2.1⟩, hW.2.2.F ht⟩) hW.2.2.2.2 hdg X.2.2.2.2.2.2.2.2
theorem e_q (X : CTX p l m meth c cc nL s args own g A) {post : Option Nat → va_W → Prop} {mc ms : Nat} (hQ : MQ below (va_Qq post (BO g A) A) args s mc ms A = Q) {rt : FieldType} (hr : meth.sig.returnType = some rt) (hrt : (∃ n, rt = .object n) ∨ ∃ t, rt = .array t) (hW : WD g A s H locs ws) (o : Option Nat) {v : Value} (hv : va_rf o = v) (is : List Nat) {u : va_W} (hn : va_nd is = true) (hu : is.map (fun i => ws[i]?) = u.map some) (hp : post o u) (hf : cells ≤ mc ∧ slots ≤ ms) (hdg : decode cc pc = .ok (.areturn, 1)) : W p l e R s m args below meth c H locs cells slots Q (F0 m pc ls [v]) := by
  subst hQ
  have h1 := hW.pick is hn hu
  subst hv
  refine W.widen hf.1 hf.2 ?_
  exact W.aret X.1 X.2.1 hr hrt (va_rf_or o) (fun t ht _ => ⟨⟨o, u, rfl, hp, by rw [ht]; exact h1.1, h1.2.1⟩, hW.2.2.F ht⟩) hW.2.2.2.2 hdg X.2.2.2.2.2.2.2.2
end
theorem MetI.of {l : Launch} {g : GG} {y : MethodName} {cc : ByteArray} {nL : Nat} {r : Option FieldType} {d mc ms : Nat} {As : List Value} {ws : va_W} {post : Int32 → va_W → Prop} {own : String} (ho : y.cls = own) (hy : plainName y.cls = true) (hA : (lg_sl As).length ≤ nL)
    (body : ∀ (p : Program) (e : Env) (s : State) (m : MethodId) (below : List Frame) (meth : Method) (c : Code) (A : Nat → Prop) (ls : Array Slot) (args : Array Value) (Q : State → Prop), MQ below (va_Qi post (BO g A) A) args s mc ms A = Q → CTX p l m meth c cc nL s args own g A → meth.sig.returnType = r → meth.name = y.name → WD g A s s.heap [] ws → lv_has ls nL (lv_args 0 As) → W p l e (RM d mc ms) s m args below meth c s.heap [] 0 0 Q (F0 m 0 ls [])) : MetI l g y cc nL r d mc ms As ws post := by
  intro sz
  refine Met.ofW (cc := cc) (maxL := nL) (ret := r) hy rfl ?_
  intro p e s m args below meth c s₁ B hml hv
  obtain ⟨rfl, hsz, hP, hK, hD0, hT⟩ := hv
  subst hsz
  have hts := atoms_spec (ws := WW y cc nL r) B.pre
  have hl := lv_entry As (n := nL) hA
  rw [lg_entry_eq]
  exact body p e s m below meth c _ _ _ _ rfl ⟨B.exec, B.bytes, hml, by rw [← ho]; exact findClass_of_methodNamed B.named, fun w h => hts w (List.mem_cons_of_mem _ h), hK, hT, fun q h => Or.inr h, B.notSynchronized⟩ B.returns (name_of_methodNamed B.named B.method).1 ⟨hP, hD0.self, va_S.rf⟩ hl
theorem MetL.of {l : Launch} {g : GG} {y : MethodName} {cc : ByteArray} {nL : Nat} {r : Option FieldType} {d mc ms : Nat} {As : List Value} {ws : va_W} {post : Int64 → va_W → Prop} {own : String} (ho : y.cls = own) (hy : plainName y.cls = true) (hA : (lg_sl As).length ≤ nL)
    (body : ∀ (p : Program) (e : Env) (s : State) (m : MethodId) (below : List Frame) (meth : Method) (c : Code) (A : Nat → Prop) (ls : Array Slot) (args : Array Value) (Q : State → Prop), MQ below (va_Ql post (BO g A) A) args s mc ms A = Q → CTX p l m meth c cc nL s args own g A → meth.sig.returnType = r → meth.name = y.name → WD g A s s.heap [] ws → lv_has ls nL (lv_args 0 As) → W p l e (RM d mc ms) s m args below meth c s.heap [] 0 0 Q (F0 m 0 ls [])) : MetL l g y cc nL r d mc ms As ws post := by
  intro sz
  refine Met.ofW (cc := cc) (maxL := nL) (ret := r) hy rfl ?_
  intro p e s m args below meth c s₁ B hml hv
  obtain ⟨rfl, hsz, hP, hK, hD0, hT⟩ := hv
  subst hsz
  have hts := atoms_spec (ws := WW y cc nL r) B.pre
  have hl := lv_entry As (n := nL) hA
  rw [lg_entry_eq]
  exact body p e s m below meth c _ _ _ _ rfl ⟨B.exec, B.bytes, hml, by rw [← ho]; exact findClass_of_methodNamed B.named, fun w h => hts w (List.mem_cons_of_mem _ h), hK, hT, fun q h => Or.inr h, B.notSynchronized⟩ B.returns (name_of_methodNamed B.named B.method).1 ⟨hP, hD0.self, va_S.rf⟩ hl
theorem MetV.of {l : Launch} {g : GG} {y : MethodName} {cc : ByteArray} {nL : Nat} {r : Option FieldType} {d mc ms : Nat} {As : List Value} {ws : va_W} {post : va_W → Prop} {own : String} (ho : y.cls = own) (hy : plainName y.cls = true) (hA : (lg_sl As).length ≤ nL)
    (body : ∀ (p : Program) (e : Env) (s : State) (m : MethodId) (below : List Frame) (meth : Method) (c : Code) (A : Nat → Prop) (ls : Array Slot) (args : Array Value) (Q : State → Prop), MQ below (va_Qv post (BO g A) A) args s mc ms A = Q → CTX p l m meth c cc nL s args own g A → meth.sig.returnType = r → meth.name = y.name → WD g A s s.heap [] ws → lv_has ls nL (lv_args 0 As) → W p l e (RM d mc ms) s m args below meth c s.heap [] 0 0 Q (F0 m 0 ls [])) : MetV l g y cc nL r d mc ms As ws post := by
  intro sz
  refine Met.ofW (cc := cc) (maxL := nL) (ret := r) hy rfl ?_
  intro p e s m args below meth c s₁ B hml hv
  obtain ⟨rfl, hsz, hP, hK, hD0, hT⟩ := hv
  subst hsz
  have hts := atoms_spec (ws := WW y cc nL r) B.pre
  have hl := lv_entry As (n := nL) hA
  rw [lg_entry_eq]
  exact body p e s m below meth c _ _ _ _ rfl ⟨B.exec, B.bytes, hml, by rw [← ho]; exact findClass_of_methodNamed B.named, fun w h => hts w (List.mem_cons_of_mem _ h), hK, hT, fun q h => Or.inr h, B.notSynchronized⟩ B.returns (name_of_methodNamed B.named B.method).1 ⟨hP, hD0.self, va_S.rf⟩ hl
theorem MetQ.of {l : Launch} {g : GG} {y : MethodName} {cc : ByteArray} {nL : Nat} {r : Option FieldType} {d mc ms : Nat} {As : List Value} {ws : va_W} {post : Option Nat → va_W → Prop} {own : String} (ho : y.cls = own) (hy : plainName y.cls = true) (hA : (lg_sl As).length ≤ nL)
    (body : ∀ (p : Program) (e : Env) (s : State) (m : MethodId) (below : List Frame) (meth : Method) (c : Code) (A : Nat → Prop) (ls : Array Slot) (args : Array Value) (Q : State → Prop), MQ below (va_Qq post (BO g A) A) args s mc ms A = Q → CTX p l m meth c cc nL s args own g A → meth.sig.returnType = r → meth.name = y.name → WD g A s s.heap [] ws → lv_has ls nL (lv_args 0 As) → W p l e (RM d mc ms) s m args below meth c s.heap [] 0 0 Q (F0 m 0 ls [])) : MetQ l g y cc nL r d mc ms As ws post := by
  intro sz
  refine Met.ofW (cc := cc) (maxL := nL) (ret := r) hy rfl ?_
  intro p e s m args below meth c s₁ B hml hv
  obtain ⟨rfl, hsz, hP, hK, hD0, hT⟩ := hv
  subst hsz
  have hts := atoms_spec (ws := WW y cc nL r) B.pre
  have hl := lv_entry As (n := nL) hA
  rw [lg_entry_eq]
  exact body p e s m below meth c _ _ _ _ rfl ⟨B.exec, B.bytes, hml, by rw [← ho]; exact findClass_of_methodNamed B.named, fun w h => hts w (List.mem_cons_of_mem _ h), hK, hT, fun q h => Or.inr h, B.notSynchronized⟩ B.returns (name_of_methodNamed B.named B.method).1 ⟨hP, hD0.self, va_S.rf⟩ hl
end
section
theorem m_34 : (Cond.code yX8_init prog_10_method_1_code 1 (Option.none : Option Jvm.ClassFile.FieldType)) ∈ BW := bw (tb1 34 (by decide +kernel)) (by decide +kernel)
theorem dX8_init_0 : decode cX8_init 0 = .ok (.aload_n 0, 1) := by decide +kernel
theorem m_35 : (Cond.methodLink "NoonValley$Tape" 3 objectInit) ∈ BW := bw (tb1 35 (by decide +kernel)) (by decide +kernel)
theorem m_28 : (Cond.instanceMethod objectInit) ∈ BW := bw (tb1 28 (by decide +kernel)) (by decide +kernel)
theorem m_29 : (Cond.code objectInit object_method_1_code 1 (Option.none : Option Jvm.ClassFile.FieldType)) ∈ BW := bw (tb1 29 (by decide +kernel)) (by decide +kernel)
theorem dX8_init_1 : decode cX8_init 1 = .ok (.invokespecial 3, 3) := by decide +kernel
theorem dX8_init_4 : decode cX8_init 4 = .ok (.aload_n 0, 1) := by decide +kernel
theorem dX8_init_5 : decode cX8_init 5 = .ok (.sipush 400, 3) := by decide +kernel
theorem m_47 : (Cond.arrayClass FieldType.int) ∈ BW := bw (tb1 47 (by decide +kernel)) (by decide +kernel)
theorem dX8_init_8 : decode cX8_init 8 = .ok (.newarray .int, 2) := by decide +kernel
theorem m_40 : (Cond.laysFinal "NoonValley$Tape" "NoonValley$Tape" "bytes" "[I") ∈ BW := bw (tb1 40 (by decide +kernel)) (by decide +kernel)
theorem m_42 : (Cond.lays "NoonValley$Tape" "NoonValley$Tape" "length" "I") ∈ BW := bw (tb1 42 (by decide +kernel)) (by decide +kernel)
theorem m_44 : (Cond.lays "NoonValley$Tape" "NoonValley$Tape" "place" "I") ∈ BW := bw (tb1 44 (by decide +kernel)) (by decide +kernel)
theorem ciX8 : CI 8 RX8 TX8 3 tyX8 := ⟨rfl, fun w hw => by
  obtain ⟨k, hk, rfl⟩ := List.mem_map.mp hw
  have hk := List.mem_range.mp hk
  match k, hk with
  | 0, _ => exact m_40
  | 1, _ => exact m_42
  | 2, _ => exact m_44
  | k + 3, h => exact absurd h (by omega), tyX8_ok, nmX8⟩
theorem m_36 : (Cond.fieldLink "NoonValley$Tape" 11 "NoonValley$Tape" "bytes" "[I") ∈ BW := bw (tb1 36 (by decide +kernel)) (by decide +kernel)
theorem dX8_init_10 : decode cX8_init 10 = .ok (.putfield 11, 3) := by decide +kernel
theorem dX8_init_13 : decode cX8_init 13 = .ok (.return_, 1) := by decide +kernel
theorem m_56 : (Cond.code yX1_init prog_3_method_1_code 1 (Option.none : Option Jvm.ClassFile.FieldType)) ∈ BW := bw (tb1 56 (by decide +kernel)) (by decide +kernel)
theorem dX1_init_0 : decode cX1_init 0 = .ok (.aload_n 0, 1) := by decide +kernel
theorem m_57 : (Cond.methodLink "NoonValley$Carrying" 3 objectInit) ∈ BW := bw (tb1 57 (by decide +kernel)) (by decide +kernel)
theorem dX1_init_1 : decode cX1_init 1 = .ok (.invokespecial 3, 3) := by decide +kernel
theorem dX1_init_4 : decode cX1_init 4 = .ok (.aload_n 0, 1) := by decide +kernel
theorem dX1_init_5 : decode cX1_init 5 = .ok (.bipush 7, 2) := by decide +kernel
theorem dX1_init_7 : decode cX1_init 7 = .ok (.newarray .int, 2) := by decide +kernel
theorem m_64 : (Cond.laysFinal "NoonValley$Carrying" "NoonValley$Carrying" "known" "[I") ∈ BW := bw (tb1 64 (by decide +kernel)) (by decide +kernel)
theorem m_66 : (Cond.laysFinal "NoonValley$Carrying" "NoonValley$Carrying" "toldOnce" "[I") ∈ BW := bw (tb1 66 (by decide +kernel)) (by decide +kernel)
theorem m_68 : (Cond.lays "NoonValley$Carrying" "NoonValley$Carrying" "deaf" "I") ∈ BW := bw (tb1 68 (by decide +kernel)) (by decide +kernel)
theorem m_70 : (Cond.lays "NoonValley$Carrying" "NoonValley$Carrying" "useful" "J") ∈ BW := bw (tb1 70 (by decide +kernel)) (by decide +kernel)
theorem m_72 : (Cond.lays "NoonValley$Carrying" "NoonValley$Carrying" "breaking" "J") ∈ BW := bw (tb1 72 (by decide +kernel)) (by decide +kernel)
theorem ciX1 : CI 1 RX1 TX1 5 tyX1 := ⟨rfl, fun w hw => by
  obtain ⟨k, hk, rfl⟩ := List.mem_map.mp hw
  have hk := List.mem_range.mp hk
  match k, hk with
  | 0, _ => exact m_64
  | 1, _ => exact m_66
  | 2, _ => exact m_68
  | 3, _ => exact m_70
  | 4, _ => exact m_72
  | k + 5, h => exact absurd h (by omega), tyX1_ok, nmX1⟩
theorem m_58 : (Cond.fieldLink "NoonValley$Carrying" 9 "NoonValley$Carrying" "known" "[I") ∈ BW := bw (tb1 58 (by decide +kernel)) (by decide +kernel)
theorem dX1_init_9 : decode cX1_init 9 = .ok (.putfield 9, 3) := by decide +kernel
theorem dX1_init_12 : decode cX1_init 12 = .ok (.aload_n 0, 1) := by decide +kernel
theorem dX1_init_13 : decode cX1_init 13 = .ok (.bipush 7, 2) := by decide +kernel
theorem dX1_init_15 : decode cX1_init 15 = .ok (.newarray .int, 2) := by decide +kernel
theorem m_60 : (Cond.fieldLink "NoonValley$Carrying" 15 "NoonValley$Carrying" "toldOnce" "[I") ∈ BW := bw (tb1 60 (by decide +kernel)) (by decide +kernel)
theorem dX1_init_17 : decode cX1_init 17 = .ok (.putfield 15, 3) := by decide +kernel
theorem dX1_init_20 : decode cX1_init 20 = .ok (.return_, 1) := by decide +kernel
theorem m_85 : (Cond.code yX5_init prog_7_method_1_code 1 (Option.none : Option Jvm.ClassFile.FieldType)) ∈ BW := bw (tb1 85 (by decide +kernel)) (by decide +kernel)
theorem dX5_init_0 : decode cX5_init 0 = .ok (.aload_n 0, 1) := by decide +kernel
theorem m_86 : (Cond.methodLink "NoonValley$Rows" 3 objectInit) ∈ BW := bw (tb1 86 (by decide +kernel)) (by decide +kernel)
theorem dX5_init_1 : decode cX5_init 1 = .ok (.invokespecial 3, 3) := by decide +kernel
theorem dX5_init_4 : decode cX5_init 4 = .ok (.aload_n 0, 1) := by decide +kernel
theorem dX5_init_5 : decode cX5_init 5 = .ok (.sipush 128, 3) := by decide +kernel
theorem dX5_init_8 : decode cX5_init 8 = .ok (.newarray .int, 2) := by decide +kernel
theorem m_96 : (Cond.laysFinal "NoonValley$Rows" "NoonValley$Rows" "sets" "[I") ∈ BW := bw (tb1 96 (by decide +kernel)) (by decide +kernel)
theorem m_98 : (Cond.laysFinal "NoonValley$Rows" "NoonValley$Rows" "rows" "[I") ∈ BW := bw (tb1 98 (by decide +kernel)) (by decide +kernel)
theorem m_100 : (Cond.laysFinal "NoonValley$Rows" "NoonValley$Rows" "met" "[Z") ∈ BW := bw (tb1 100 (by decide +kernel)) (by decide +kernel)
theorem m_102 : (Cond.lays "NoonValley$Rows" "NoonValley$Rows" "count" "I") ∈ BW := bw (tb1 102 (by decide +kernel)) (by decide +kernel)
theorem m_104 : (Cond.laysFinal "NoonValley$Rows" "NoonValley$Rows" "choices" "[I") ∈ BW := bw (tb1 104 (by decide +kernel)) (by decide +kernel)
theorem m_106 : (Cond.lays "NoonValley$Rows" "NoonValley$Rows" "people" "I") ∈ BW := bw (tb1 106 (by decide +kernel)) (by decide +kernel)
theorem ciX5 : CI 5 RX5 TX5 6 tyX5 := ⟨rfl, fun w hw => by
  obtain ⟨k, hk, rfl⟩ := List.mem_map.mp hw
  have hk := List.mem_range.mp hk
  match k, hk with
  | 0, _ => exact m_96
  | 1, _ => exact m_98
  | 2, _ => exact m_100
  | 3, _ => exact m_102
  | 4, _ => exact m_104
  | 5, _ => exact m_106
  | k + 6, h => exact absurd h (by omega), tyX5_ok, nmX5⟩
theorem m_87 : (Cond.fieldLink "NoonValley$Rows" 11 "NoonValley$Rows" "sets" "[I") ∈ BW := bw (tb1 87 (by decide +kernel)) (by decide +kernel)
theorem dX5_init_10 : decode cX5_init 10 = .ok (.putfield 11, 3) := by decide +kernel
theorem dX5_init_13 : decode cX5_init 13 = .ok (.aload_n 0, 1) := by decide +kernel
theorem dX5_init_14 : decode cX5_init 14 = .ok (.sipush 128, 3) := by decide +kernel
theorem dX5_init_17 : decode cX5_init 17 = .ok (.newarray .int, 2) := by decide +kernel
theorem m_89 : (Cond.fieldLink "NoonValley$Rows" 15 "NoonValley$Rows" "rows" "[I") ∈ BW := bw (tb1 89 (by decide +kernel)) (by decide +kernel)
theorem dX5_init_19 : decode cX5_init 19 = .ok (.putfield 15, 3) := by decide +kernel
theorem dX5_init_22 : decode cX5_init 22 = .ok (.aload_n 0, 1) := by decide +kernel
theorem dX5_init_23 : decode cX5_init 23 = .ok (.sipush 128, 3) := by decide +kernel
theorem m_109 : (Cond.arrayClass FieldType.boolean) ∈ BW := bw (tb1 109 (by decide +kernel)) (by decide +kernel)
theorem dX5_init_26 : decode cX5_init 26 = .ok (.newarray .boolean, 2) := by decide +kernel
theorem m_91 : (Cond.fieldLink "NoonValley$Rows" 18 "NoonValley$Rows" "met" "[Z") ∈ BW := bw (tb1 91 (by decide +kernel)) (by decide +kernel)
theorem dX5_init_28 : decode cX5_init 28 = .ok (.putfield 18, 3) := by decide +kernel
theorem dX5_init_31 : decode cX5_init 31 = .ok (.aload_n 0, 1) := by decide +kernel
theorem dX5_init_32 : decode cX5_init 32 = .ok (.bipush 7, 2) := by decide +kernel
theorem dX5_init_34 : decode cX5_init 34 = .ok (.newarray .int, 2) := by decide +kernel
theorem m_94 : (Cond.fieldLink "NoonValley$Rows" 22 "NoonValley$Rows" "choices" "[I") ∈ BW := bw (tb1 94 (by decide +kernel)) (by decide +kernel)
theorem dX5_init_36 : decode cX5_init 36 = .ok (.putfield 22, 3) := by decide +kernel
theorem dX5_init_39 : decode cX5_init 39 = .ok (.return_, 1) := by decide +kernel
theorem m_172 : (Cond.code yX6_init prog_8_method_1_code 1 (Option.none : Option Jvm.ClassFile.FieldType)) ∈ BW := bw (tb1 172 (by decide +kernel)) (by decide +kernel)
theorem dX6_init_0 : decode cX6_init 0 = .ok (.aload_n 0, 1) := by decide +kernel
theorem m_173 : (Cond.methodLink "NoonValley$Shutting" 3 objectInit) ∈ BW := bw (tb1 173 (by decide +kernel)) (by decide +kernel)
theorem dX6_init_1 : decode cX6_init 1 = .ok (.invokespecial 3, 3) := by decide +kernel
theorem dX6_init_4 : decode cX6_init 4 = .ok (.return_, 1) := by decide +kernel
theorem m_194 : (Cond.code yX3_init prog_5_method_1_code 1 (Option.none : Option Jvm.ClassFile.FieldType)) ∈ BW := bw (tb1 194 (by decide +kernel)) (by decide +kernel)
theorem dX3_init_0 : decode cX3_init 0 = .ok (.aload_n 0, 1) := by decide +kernel
theorem m_195 : (Cond.methodLink "NoonValley$Gossip" 3 objectInit) ∈ BW := bw (tb1 195 (by decide +kernel)) (by decide +kernel)
theorem dX3_init_1 : decode cX3_init 1 = .ok (.invokespecial 3, 3) := by decide +kernel
theorem dX3_init_4 : decode cX3_init 4 = .ok (.aload_n 0, 1) := by decide +kernel
theorem dX3_init_5 : decode cX3_init 5 = .ok (.iconst 5, 1) := by decide +kernel
theorem dX3_init_6 : decode cX3_init 6 = .ok (.newarray .int, 2) := by decide +kernel
theorem m_199 : (Cond.lays "NoonValley$Gossip" "NoonValley$Gossip" "valley" "LNoonValley$Valley;") ∈ BW := bw (tb1 199 (by decide +kernel)) (by decide +kernel)
theorem m_201 : (Cond.lays "NoonValley$Gossip" "NoonValley$Gossip" "all" "I") ∈ BW := bw (tb1 201 (by decide +kernel)) (by decide +kernel)
theorem m_203 : (Cond.laysFinal "NoonValley$Gossip" "NoonValley$Gossip" "knows" "[I") ∈ BW := bw (tb1 203 (by decide +kernel)) (by decide +kernel)
theorem ciX3 : CI 3 RX3 TX3 3 tyX3 := ⟨rfl, fun w hw => by
  obtain ⟨k, hk, rfl⟩ := List.mem_map.mp hw
  have hk := List.mem_range.mp hk
  match k, hk with
  | 0, _ => exact m_199
  | 1, _ => exact m_201
  | 2, _ => exact m_203
  | k + 3, h => exact absurd h (by omega), tyX3_ok, nmX3⟩
theorem m_198 : (Cond.fieldLink "NoonValley$Gossip" 11 "NoonValley$Gossip" "knows" "[I") ∈ BW := bw (tb1 198 (by decide +kernel)) (by decide +kernel)
theorem dX3_init_8 : decode cX3_init 8 = .ok (.putfield 11, 3) := by decide +kernel
theorem dX3_init_11 : decode cX3_init 11 = .ok (.return_, 1) := by decide +kernel
theorem m_210 : (Cond.code yX9_init prog_11_method_1_code 1 (Option.none : Option Jvm.ClassFile.FieldType)) ∈ BW := bw (tb1 210 (by decide +kernel)) (by decide +kernel)
theorem dX9_init_0 : decode cX9_init 0 = .ok (.aload_n 0, 1) := by decide +kernel
theorem m_211 : (Cond.methodLink "NoonValley$Trade" 3 objectInit) ∈ BW := bw (tb1 211 (by decide +kernel)) (by decide +kernel)
theorem dX9_init_1 : decode cX9_init 1 = .ok (.invokespecial 3, 3) := by decide +kernel
theorem dX9_init_4 : decode cX9_init 4 = .ok (.aload_n 0, 1) := by decide +kernel
theorem dX9_init_5 : decode cX9_init 5 = .ok (.sipush 4096, 3) := by decide +kernel
theorem dX9_init_8 : decode cX9_init 8 = .ok (.newarray .int, 2) := by decide +kernel
theorem m_217 : (Cond.lays "NoonValley$Trade" "NoonValley$Trade" "now" "[I") ∈ BW := bw (tb1 217 (by decide +kernel)) (by decide +kernel)
theorem m_219 : (Cond.lays "NoonValley$Trade" "NoonValley$Trade" "next" "[I") ∈ BW := bw (tb1 219 (by decide +kernel)) (by decide +kernel)
theorem m_221 : (Cond.laysFinal "NoonValley$Trade" "NoonValley$Trade" "open" "[Z") ∈ BW := bw (tb1 221 (by decide +kernel)) (by decide +kernel)
theorem ciX9 : CI 9 RX9 TX9 3 tyX9 := ⟨rfl, fun w hw => by
  obtain ⟨k, hk, rfl⟩ := List.mem_map.mp hw
  have hk := List.mem_range.mp hk
  match k, hk with
  | 0, _ => exact m_217
  | 1, _ => exact m_219
  | 2, _ => exact m_221
  | k + 3, h => exact absurd h (by omega), tyX9_ok, nmX9⟩
theorem m_214 : (Cond.fieldLink "NoonValley$Trade" 11 "NoonValley$Trade" "now" "[I") ∈ BW := bw (tb1 214 (by decide +kernel)) (by decide +kernel)
theorem dX9_init_10 : decode cX9_init 10 = .ok (.putfield 11, 3) := by decide +kernel
theorem dX9_init_13 : decode cX9_init 13 = .ok (.aload_n 0, 1) := by decide +kernel
theorem dX9_init_14 : decode cX9_init 14 = .ok (.sipush 4096, 3) := by decide +kernel
theorem dX9_init_17 : decode cX9_init 17 = .ok (.newarray .int, 2) := by decide +kernel
theorem m_215 : (Cond.fieldLink "NoonValley$Trade" 15 "NoonValley$Trade" "next" "[I") ∈ BW := bw (tb1 215 (by decide +kernel)) (by decide +kernel)
theorem dX9_init_19 : decode cX9_init 19 = .ok (.putfield 15, 3) := by decide +kernel
theorem dX9_init_22 : decode cX9_init 22 = .ok (.aload_n 0, 1) := by decide +kernel
theorem m_212 : (Cond.fieldLink "NoonValley$Trade" 18 "NoonValley$Trade" "COUPLE_A" "[I") ∈ BW := bw (tb1 212 (by decide +kernel)) (by decide +kernel)
theorem dX9_init_23 : decode cX9_init 23 = .ok (.getstatic 18, 3) := by decide +kernel
theorem dX9_init_26 : decode cX9_init 26 = .ok (.arraylength, 1) := by decide +kernel
theorem dX9_init_27 : decode cX9_init 27 = .ok (.newarray .boolean, 2) := by decide +kernel
theorem m_216 : (Cond.fieldLink "NoonValley$Trade" 21 "NoonValley$Trade" "open" "[Z") ∈ BW := bw (tb1 216 (by decide +kernel)) (by decide +kernel)
theorem dX9_init_29 : decode cX9_init 29 = .ok (.putfield 21, 3) := by decide +kernel
theorem dX9_init_32 : decode cX9_init 32 = .ok (.return_, 1) := by decide +kernel
theorem m_228 : (Cond.code yX0_init prog_2_method_1_code 1 (Option.none : Option Jvm.ClassFile.FieldType)) ∈ BW := bw (tb1 228 (by decide +kernel)) (by decide +kernel)
theorem dX0_init_0 : decode cX0_init 0 = .ok (.aload_n 0, 1) := by decide +kernel
theorem m_229 : (Cond.methodLink "NoonValley$Cards" 3 objectInit) ∈ BW := bw (tb1 229 (by decide +kernel)) (by decide +kernel)
theorem dX0_init_1 : decode cX0_init 1 = .ok (.invokespecial 3, 3) := by decide +kernel
theorem dX0_init_4 : decode cX0_init 4 = .ok (.aload_n 0, 1) := by decide +kernel
theorem dX0_init_5 : decode cX0_init 5 = .ok (.bipush 7, 2) := by decide +kernel
theorem dX0_init_7 : decode cX0_init 7 = .ok (.newarray .int, 2) := by decide +kernel
theorem m_238 : (Cond.lays "NoonValley$Cards" "NoonValley$Cards" "valley" "LNoonValley$Valley;") ∈ BW := bw (tb1 238 (by decide +kernel)) (by decide +kernel)
theorem m_240 : (Cond.lays "NoonValley$Cards" "NoonValley$Cards" "known" "I") ∈ BW := bw (tb2 0 (by decide +kernel)) (by decide +kernel)
theorem m_242 : (Cond.lays "NoonValley$Cards" "NoonValley$Cards" "once" "I") ∈ BW := bw (tb2 2 (by decide +kernel)) (by decide +kernel)
theorem m_244 : (Cond.laysFinal "NoonValley$Cards" "NoonValley$Cards" "called" "[I") ∈ BW := bw (tb2 4 (by decide +kernel)) (by decide +kernel)
theorem m_246 : (Cond.laysFinal "NoonValley$Cards" "NoonValley$Cards" "time" "[I") ∈ BW := bw (tb2 6 (by decide +kernel)) (by decide +kernel)
theorem m_248 : (Cond.laysFinal "NoonValley$Cards" "NoonValley$Cards" "children" "[I") ∈ BW := bw (tb2 8 (by decide +kernel)) (by decide +kernel)
theorem m_250 : (Cond.laysFinal "NoonValley$Cards" "NoonValley$Cards" "order" "[I") ∈ BW := bw (tb2 10 (by decide +kernel)) (by decide +kernel)
theorem ciX0 : CI 0 RX0 TX0 7 tyX0 := ⟨rfl, fun w hw => by
  obtain ⟨k, hk, rfl⟩ := List.mem_map.mp hw
  have hk := List.mem_range.mp hk
  match k, hk with
  | 0, _ => exact m_238
  | 1, _ => exact m_240
  | 2, _ => exact m_242
  | 3, _ => exact m_244
  | 4, _ => exact m_246
  | 5, _ => exact m_248
  | 6, _ => exact m_250
  | k + 7, h => exact absurd h (by omega), tyX0_ok, nmX0⟩
theorem m_233 : (Cond.fieldLink "NoonValley$Cards" 9 "NoonValley$Cards" "called" "[I") ∈ BW := bw (tb1 233 (by decide +kernel)) (by decide +kernel)
theorem dX0_init_9 : decode cX0_init 9 = .ok (.putfield 9, 3) := by decide +kernel
theorem dX0_init_12 : decode cX0_init 12 = .ok (.aload_n 0, 1) := by decide +kernel
theorem dX0_init_13 : decode cX0_init 13 = .ok (.bipush 7, 2) := by decide +kernel
theorem dX0_init_15 : decode cX0_init 15 = .ok (.newarray .int, 2) := by decide +kernel
theorem m_234 : (Cond.fieldLink "NoonValley$Cards" 15 "NoonValley$Cards" "time" "[I") ∈ BW := bw (tb1 234 (by decide +kernel)) (by decide +kernel)
theorem dX0_init_17 : decode cX0_init 17 = .ok (.putfield 15, 3) := by decide +kernel
theorem dX0_init_20 : decode cX0_init 20 = .ok (.aload_n 0, 1) := by decide +kernel
theorem dX0_init_21 : decode cX0_init 21 = .ok (.bipush 7, 2) := by decide +kernel
theorem dX0_init_23 : decode cX0_init 23 = .ok (.newarray .int, 2) := by decide +kernel
theorem m_236 : (Cond.fieldLink "NoonValley$Cards" 18 "NoonValley$Cards" "children" "[I") ∈ BW := bw (tb1 236 (by decide +kernel)) (by decide +kernel)
theorem dX0_init_25 : decode cX0_init 25 = .ok (.putfield 18, 3) := by decide +kernel
theorem dX0_init_28 : decode cX0_init 28 = .ok (.aload_n 0, 1) := by decide +kernel
theorem dX0_init_29 : decode cX0_init 29 = .ok (.bipush 7, 2) := by decide +kernel
theorem dX0_init_31 : decode cX0_init 31 = .ok (.newarray .int, 2) := by decide +kernel
theorem m_237 : (Cond.fieldLink "NoonValley$Cards" 21 "NoonValley$Cards" "order" "[I") ∈ BW := bw (tb1 237 (by decide +kernel)) (by decide +kernel)
theorem dX0_init_33 : decode cX0_init 33 = .ok (.putfield 21, 3) := by decide +kernel
theorem dX0_init_36 : decode cX0_init 36 = .ok (.return_, 1) := by decide +kernel
theorem m_257 : (Cond.code yX2_init prog_4_method_1_code 1 (Option.none : Option Jvm.ClassFile.FieldType)) ∈ BW := bw (tb2 17 (by decide +kernel)) (by decide +kernel)
theorem dX2_init_0 : decode cX2_init 0 = .ok (.aload_n 0, 1) := by decide +kernel
theorem m_258 : (Cond.methodLink "NoonValley$Chance" 3 objectInit) ∈ BW := bw (tb2 18 (by decide +kernel)) (by decide +kernel)
theorem dX2_init_1 : decode cX2_init 1 = .ok (.invokespecial 3, 3) := by decide +kernel
theorem dX2_init_4 : decode cX2_init 4 = .ok (.aload_n 0, 1) := by decide +kernel
theorem dX2_init_5 : decode cX2_init 5 = .ok (.iconst 5, 1) := by decide +kernel
theorem m_266 : (Cond.arrayClass FieldType.long) ∈ BW := bw (tb2 26 (by decide +kernel)) (by decide +kernel)
theorem dX2_init_6 : decode cX2_init 6 = .ok (.newarray .long, 2) := by decide +kernel
theorem m_261 : (Cond.lays "NoonValley$Chance" "NoonValley$Chance" "now" "[J") ∈ BW := bw (tb2 21 (by decide +kernel)) (by decide +kernel)
theorem m_263 : (Cond.lays "NoonValley$Chance" "NoonValley$Chance" "next" "[J") ∈ BW := bw (tb2 23 (by decide +kernel)) (by decide +kernel)
theorem ciX2 : CI 2 RX2 TX2 2 tyX2 := ⟨rfl, fun w hw => by
  obtain ⟨k, hk, rfl⟩ := List.mem_map.mp hw
  have hk := List.mem_range.mp hk
  match k, hk with
  | 0, _ => exact m_261
  | 1, _ => exact m_263
  | k + 2, h => exact absurd h (by omega), tyX2_ok, nmX2⟩
theorem m_259 : (Cond.fieldLink "NoonValley$Chance" 11 "NoonValley$Chance" "now" "[J") ∈ BW := bw (tb2 19 (by decide +kernel)) (by decide +kernel)
theorem dX2_init_8 : decode cX2_init 8 = .ok (.putfield 11, 3) := by decide +kernel
theorem dX2_init_11 : decode cX2_init 11 = .ok (.aload_n 0, 1) := by decide +kernel
theorem dX2_init_12 : decode cX2_init 12 = .ok (.iconst 5, 1) := by decide +kernel
theorem dX2_init_13 : decode cX2_init 13 = .ok (.newarray .long, 2) := by decide +kernel
theorem m_260 : (Cond.fieldLink "NoonValley$Chance" 15 "NoonValley$Chance" "next" "[J") ∈ BW := bw (tb2 20 (by decide +kernel)) (by decide +kernel)
theorem dX2_init_15 : decode cX2_init 15 = .ok (.putfield 15, 3) := by decide +kernel
theorem dX2_init_18 : decode cX2_init 18 = .ok (.return_, 1) := by decide +kernel
theorem m_270 : (Cond.code yX10_init prog_12_method_1_code 1 (Option.none : Option Jvm.ClassFile.FieldType)) ∈ BW := bw (tb2 30 (by decide +kernel)) (by decide +kernel)
theorem dX10_init_0 : decode cX10_init 0 = .ok (.aload_n 0, 1) := by decide +kernel
theorem m_271 : (Cond.methodLink "NoonValley$Valley" 3 objectInit) ∈ BW := bw (tb2 31 (by decide +kernel)) (by decide +kernel)
theorem dX10_init_1 : decode cX10_init 1 = .ok (.invokespecial 3, 3) := by decide +kernel
theorem dX10_init_4 : decode cX10_init 4 = .ok (.aload_n 0, 1) := by decide +kernel
theorem dX10_init_5 : decode cX10_init 5 = .ok (.iconst 4, 1) := by decide +kernel
theorem dX10_init_6 : decode cX10_init 6 = .ok (.newarray .int, 2) := by decide +kernel
theorem m_320 : (Cond.lays "NoonValley$Valley" "NoonValley$Valley" "people" "I") ∈ BW := bw (tb2 80 (by decide +kernel)) (by decide +kernel)
theorem m_322 : (Cond.lays "NoonValley$Valley" "NoonValley$Valley" "lineCount" "I") ∈ BW := bw (tb2 82 (by decide +kernel)) (by decide +kernel)
theorem m_324 : (Cond.lays "NoonValley$Valley" "NoonValley$Valley" "deaf" "I") ∈ BW := bw (tb2 84 (by decide +kernel)) (by decide +kernel)
theorem m_326 : (Cond.laysFinal "NoonValley$Valley" "NoonValley$Valley" "knows" "[I") ∈ BW := bw (tb2 86 (by decide +kernel)) (by decide +kernel)
theorem m_328 : (Cond.laysFinal "NoonValley$Valley" "NoonValley$Valley" "must" "[I") ∈ BW := bw (tb2 88 (by decide +kernel)) (by decide +kernel)
theorem m_330 : (Cond.laysFinal "NoonValley$Valley" "NoonValley$Valley" "mustNot" "[I") ∈ BW := bw (tb2 90 (by decide +kernel)) (by decide +kernel)
theorem m_332 : (Cond.laysFinal "NoonValley$Valley" "NoonValley$Valley" "firstNews" "[I") ∈ BW := bw (tb2 92 (by decide +kernel)) (by decide +kernel)
theorem m_334 : (Cond.laysFinal "NoonValley$Valley" "NoonValley$Valley" "mustNews" "[I") ∈ BW := bw (tb2 94 (by decide +kernel)) (by decide +kernel)
theorem m_336 : (Cond.laysFinal "NoonValley$Valley" "NoonValley$Valley" "mustNotNews" "[I") ∈ BW := bw (tb2 96 (by decide +kernel)) (by decide +kernel)
theorem m_338 : (Cond.laysFinal "NoonValley$Valley" "NoonValley$Valley" "lines" "[I") ∈ BW := bw (tb2 98 (by decide +kernel)) (by decide +kernel)
theorem m_340 : (Cond.laysFinal "NoonValley$Valley" "NoonValley$Valley" "callable" "[I") ∈ BW := bw (tb2 100 (by decide +kernel)) (by decide +kernel)
theorem m_342 : (Cond.laysFinal "NoonValley$Valley" "NoonValley$Valley" "cards" "[I") ∈ BW := bw (tb2 102 (by decide +kernel)) (by decide +kernel)
theorem m_344 : (Cond.laysFinal "NoonValley$Valley" "NoonValley$Valley" "cardLength" "[I") ∈ BW := bw (tb2 104 (by decide +kernel)) (by decide +kernel)
theorem m_346 : (Cond.laysFinal "NoonValley$Valley" "NoonValley$Valley" "tales" "[I") ∈ BW := bw (tb2 106 (by decide +kernel)) (by decide +kernel)
theorem m_348 : (Cond.lays "NoonValley$Valley" "NoonValley$Valley" "gossipLength" "I") ∈ BW := bw (tb2 108 (by decide +kernel)) (by decide +kernel)
theorem m_350 : (Cond.laysFinal "NoonValley$Valley" "NoonValley$Valley" "gossipLines" "[I") ∈ BW := bw (tb2 110 (by decide +kernel)) (by decide +kernel)
theorem ciX10 : CI 10 RX10 TX10 16 tyX10 := ⟨rfl, fun w hw => by
  obtain ⟨k, hk, rfl⟩ := List.mem_map.mp hw
  have hk := List.mem_range.mp hk
  match k, hk with
  | 0, _ => exact m_320
  | 1, _ => exact m_322
  | 2, _ => exact m_324
  | 3, _ => exact m_326
  | 4, _ => exact m_328
  | 5, _ => exact m_330
  | 6, _ => exact m_332
  | 7, _ => exact m_334
  | 8, _ => exact m_336
  | 9, _ => exact m_338
  | 10, _ => exact m_340
  | 11, _ => exact m_342
  | 12, _ => exact m_344
  | 13, _ => exact m_346
  | 14, _ => exact m_348
  | 15, _ => exact m_350
  | k + 16, h => exact absurd h (by omega), tyX10_ok, nmX10⟩
theorem m_291 : (Cond.fieldLink "NoonValley$Valley" 9 "NoonValley$Valley" "knows" "[I") ∈ BW := bw (tb2 51 (by decide +kernel)) (by decide +kernel)
theorem dX10_init_8 : decode cX10_init 8 = .ok (.putfield 9, 3) := by decide +kernel
theorem dX10_init_11 : decode cX10_init 11 = .ok (.aload_n 0, 1) := by decide +kernel
theorem dX10_init_12 : decode cX10_init 12 = .ok (.iconst 4, 1) := by decide +kernel
theorem dX10_init_13 : decode cX10_init 13 = .ok (.newarray .int, 2) := by decide +kernel
theorem m_296 : (Cond.fieldLink "NoonValley$Valley" 15 "NoonValley$Valley" "must" "[I") ∈ BW := bw (tb2 56 (by decide +kernel)) (by decide +kernel)
theorem dX10_init_15 : decode cX10_init 15 = .ok (.putfield 15, 3) := by decide +kernel
theorem dX10_init_18 : decode cX10_init 18 = .ok (.aload_n 0, 1) := by decide +kernel
theorem dX10_init_19 : decode cX10_init 19 = .ok (.iconst 4, 1) := by decide +kernel
theorem dX10_init_20 : decode cX10_init 20 = .ok (.newarray .int, 2) := by decide +kernel
theorem m_300 : (Cond.fieldLink "NoonValley$Valley" 18 "NoonValley$Valley" "mustNot" "[I") ∈ BW := bw (tb2 60 (by decide +kernel)) (by decide +kernel)
theorem dX10_init_22 : decode cX10_init 22 = .ok (.putfield 18, 3) := by decide +kernel
theorem dX10_init_25 : decode cX10_init 25 = .ok (.aload_n 0, 1) := by decide +kernel
theorem dX10_init_26 : decode cX10_init 26 = .ok (.bipush 7, 2) := by decide +kernel
theorem dX10_init_28 : decode cX10_init 28 = .ok (.newarray .int, 2) := by decide +kernel
theorem m_304 : (Cond.fieldLink "NoonValley$Valley" 21 "NoonValley$Valley" "firstNews" "[I") ∈ BW := bw (tb2 64 (by decide +kernel)) (by decide +kernel)
theorem dX10_init_30 : decode cX10_init 30 = .ok (.putfield 21, 3) := by decide +kernel
theorem dX10_init_33 : decode cX10_init 33 = .ok (.aload_n 0, 1) := by decide +kernel
theorem dX10_init_34 : decode cX10_init 34 = .ok (.bipush 7, 2) := by decide +kernel
theorem dX10_init_36 : decode cX10_init 36 = .ok (.newarray .int, 2) := by decide +kernel
theorem m_306 : (Cond.fieldLink "NoonValley$Valley" 24 "NoonValley$Valley" "mustNews" "[I") ∈ BW := bw (tb2 66 (by decide +kernel)) (by decide +kernel)
theorem dX10_init_38 : decode cX10_init 38 = .ok (.putfield 24, 3) := by decide +kernel
theorem dX10_init_41 : decode cX10_init 41 = .ok (.aload_n 0, 1) := by decide +kernel
theorem dX10_init_42 : decode cX10_init 42 = .ok (.bipush 7, 2) := by decide +kernel
theorem dX10_init_44 : decode cX10_init 44 = .ok (.newarray .int, 2) := by decide +kernel
theorem m_308 : (Cond.fieldLink "NoonValley$Valley" 27 "NoonValley$Valley" "mustNotNews" "[I") ∈ BW := bw (tb2 68 (by decide +kernel)) (by decide +kernel)
theorem dX10_init_46 : decode cX10_init 46 = .ok (.putfield 27, 3) := by decide +kernel
theorem dX10_init_49 : decode cX10_init 49 = .ok (.aload_n 0, 1) := by decide +kernel
theorem dX10_init_50 : decode cX10_init 50 = .ok (.bipush 72, 2) := by decide +kernel
theorem dX10_init_52 : decode cX10_init 52 = .ok (.newarray .int, 2) := by decide +kernel
theorem m_310 : (Cond.fieldLink "NoonValley$Valley" 30 "NoonValley$Valley" "lines" "[I") ∈ BW := bw (tb2 70 (by decide +kernel)) (by decide +kernel)
theorem dX10_init_54 : decode cX10_init 54 = .ok (.putfield 30, 3) := by decide +kernel
theorem dX10_init_57 : decode cX10_init 57 = .ok (.aload_n 0, 1) := by decide +kernel
theorem dX10_init_58 : decode cX10_init 58 = .ok (.sipush 175, 3) := by decide +kernel
theorem dX10_init_61 : decode cX10_init 61 = .ok (.newarray .int, 2) := by decide +kernel
theorem m_311 : (Cond.fieldLink "NoonValley$Valley" 33 "NoonValley$Valley" "callable" "[I") ∈ BW := bw (tb2 71 (by decide +kernel)) (by decide +kernel)
theorem dX10_init_63 : decode cX10_init 63 = .ok (.putfield 33, 3) := by decide +kernel
theorem dX10_init_66 : decode cX10_init 66 = .ok (.aload_n 0, 1) := by decide +kernel
theorem dX10_init_67 : decode cX10_init 67 = .ok (.bipush 42, 2) := by decide +kernel
theorem dX10_init_69 : decode cX10_init 69 = .ok (.newarray .int, 2) := by decide +kernel
theorem m_312 : (Cond.fieldLink "NoonValley$Valley" 36 "NoonValley$Valley" "cards" "[I") ∈ BW := bw (tb2 72 (by decide +kernel)) (by decide +kernel)
theorem dX10_init_71 : decode cX10_init 71 = .ok (.putfield 36, 3) := by decide +kernel
theorem dX10_init_74 : decode cX10_init 74 = .ok (.aload_n 0, 1) := by decide +kernel
theorem dX10_init_75 : decode cX10_init 75 = .ok (.bipush 7, 2) := by decide +kernel
theorem dX10_init_77 : decode cX10_init 77 = .ok (.newarray .int, 2) := by decide +kernel
theorem m_313 : (Cond.fieldLink "NoonValley$Valley" 39 "NoonValley$Valley" "cardLength" "[I") ∈ BW := bw (tb2 73 (by decide +kernel)) (by decide +kernel)
theorem dX10_init_79 : decode cX10_init 79 = .ok (.putfield 39, 3) := by decide +kernel
theorem dX10_init_82 : decode cX10_init 82 = .ok (.aload_n 0, 1) := by decide +kernel
theorem dX10_init_83 : decode cX10_init 83 = .ok (.bipush 28, 2) := by decide +kernel
theorem dX10_init_85 : decode cX10_init 85 = .ok (.newarray .int, 2) := by decide +kernel
theorem m_314 : (Cond.fieldLink "NoonValley$Valley" 42 "NoonValley$Valley" "tales" "[I") ∈ BW := bw (tb2 74 (by decide +kernel)) (by decide +kernel)
theorem dX10_init_87 : decode cX10_init 87 = .ok (.putfield 42, 3) := by decide +kernel
theorem dX10_init_90 : decode cX10_init 90 = .ok (.aload_n 0, 1) := by decide +kernel
theorem dX10_init_91 : decode cX10_init 91 = .ok (.bipush (-2), 2) := by decide +kernel
theorem m_315 : (Cond.fieldLink "NoonValley$Valley" 45 "NoonValley$Valley" "gossipLength" "I") ∈ BW := bw (tb2 75 (by decide +kernel)) (by decide +kernel)
theorem dX10_init_93 : decode cX10_init 93 = .ok (.putfield 45, 3) := by decide +kernel
theorem dX10_init_96 : decode cX10_init 96 = .ok (.aload_n 0, 1) := by decide +kernel
theorem dX10_init_97 : decode cX10_init 97 = .ok (.bipush 7, 2) := by decide +kernel
theorem dX10_init_99 : decode cX10_init 99 = .ok (.newarray .int, 2) := by decide +kernel
theorem m_317 : (Cond.fieldLink "NoonValley$Valley" 51 "NoonValley$Valley" "gossipLines" "[I") ∈ BW := bw (tb2 77 (by decide +kernel)) (by decide +kernel)
theorem dX10_init_101 : decode cX10_init 101 = .ok (.putfield 51, 3) := by decide +kernel
theorem dX10_init_104 : decode cX10_init 104 = .ok (.return_, 1) := by decide +kernel
set_option maxHeartbeats 4000000 in
set_option maxRecDepth 100000 in
theorem C_X8_init (l : Launch) (g : GG) (h0 : Nat) : MetV l g yX8_init cX8_init 1 none 1 1 400 [.ref h0] [(h0, .inr (8, [.null, .int 0, .int 0]))] (fun u => ∃ q1 : Nat, u = [(h0, .inr (8, [.ref q1, .int 0, .int 0]))]) := by
  refine MetV.of (own := RX8) rfl (by decide) (Nat.le_of_ble_eq_true rfl) ?_
  intro p e s m below meth c A ls args Q hQ X hr hin hW hl
  have hx := X.1
  have hb := X.2.1
  have hl : lv_has ls 1 [(0, .ref h0)] := hl
  refine lv_aload_n (pc := 0) hx hb dX8_init_0 rfl (lv_at hl 0 rfl) ?_
  refine W.objInit hx hb X.2.2.2.1 (X.2.2.2.2.1 _ m_35) (X.2.2.2.2.1 _ m_28) (X.2.2.2.2.1 _ m_29) rfl (by rw [X.2.2.1]; exact hl.1) rfl dX8_init_1 (Nat.le_of_ble_eq_true rfl) (Nat.le_of_ble_eq_true rfl) ?_
  refine W.eq (g2 := F0 m 4 ls []) rfl ?_
  refine lv_aload_n (pc := 4) hx hb dX8_init_4 rfl (lv_at hl 0 rfl) ?_
  refine lv_sipush (v := 400) (pc := 5) hx hb dX8_init_5 (by decide) ?_
  refine r_newa (a0 := (400, .inl (fun _ => 0))) X hW .int rfl m_47 1 rfl (by intro C h; cases h) (fun _ => rfl) (by decide) (by decide) (Nat.le_of_ble_eq_true rfl) ⟨Nat.le_of_ble_eq_true rfl, Nat.le_of_ble_eq_true rfl⟩ dX8_init_8 (fun q1 H hW => ?_)
  have hW : WD g A s _ _ [(h0, .inr (8, [.null, .int 0, .int 0]))] := hW.pick [0] rfl rfl
  refine r_putF (ws' := [(h0, .inr (8, [.ref q1, .int 0, .int 0]))]) X hin hW 0 ciX8 0 rfl (by decide) m_36 rfl rfl rfl rfl rfl (Nat.le_of_ble_eq_true rfl) rfl dX8_init_10 (fun H locs hW => ?_)
  exact e_v X hQ hr hW (u := [(h0, .inr (8, [.ref q1, .int 0, .int 0]))]) [0] rfl rfl (⟨q1, rfl⟩) ⟨Nat.le_of_ble_eq_true rfl, Nat.le_of_ble_eq_true rfl⟩ dX8_init_13

set_option maxHeartbeats 4000000 in
set_option maxRecDepth 100000 in
theorem C_X1_init (l : Launch) (g : GG) (h0 : Nat) : MetV l g yX1_init cX1_init 1 none 1 2 14 [.ref h0] [(h0, .inr (1, [.null, .null, .int 0, .long 0, .long 0]))] (fun u => u = []) := by
  refine MetV.of (own := RX1) rfl (by decide) (Nat.le_of_ble_eq_true rfl) ?_
  intro p e s m below meth c A ls args Q hQ X hr hin hW hl
  have hx := X.1
  have hb := X.2.1
  have hl : lv_has ls 1 [(0, .ref h0)] := hl
  refine lv_aload_n (pc := 0) hx hb dX1_init_0 rfl (lv_at hl 0 rfl) ?_
  refine W.objInit hx hb X.2.2.2.1 (X.2.2.2.2.1 _ m_57) (X.2.2.2.2.1 _ m_28) (X.2.2.2.2.1 _ m_29) rfl (by rw [X.2.2.1]; exact hl.1) rfl dX1_init_1 (Nat.le_of_ble_eq_true rfl) (Nat.le_of_ble_eq_true rfl) ?_
  refine W.eq (g2 := F0 m 4 ls []) rfl ?_
  refine lv_aload_n (pc := 4) hx hb dX1_init_4 rfl (lv_at hl 0 rfl) ?_
  refine lv_bipush (v := 7) (pc := 5) hx hb dX1_init_5 (by decide) ?_
  refine r_newa (a0 := (7, .inl (fun _ => 0))) X hW .int rfl m_47 1 rfl (by intro C h; cases h) (fun _ => rfl) (by decide) (by decide) (Nat.le_of_ble_eq_true rfl) ⟨Nat.le_of_ble_eq_true rfl, Nat.le_of_ble_eq_true rfl⟩ dX1_init_7 (fun q1 H hW => ?_)
  have hW : WD g A s _ _ [(h0, .inr (1, [.null, .null, .int 0, .long 0, .long 0]))] := hW.pick [0] rfl rfl
  refine r_putF (ws' := [(h0, .inr (1, [.ref q1, .null, .int 0, .long 0, .long 0]))]) X hin hW 0 ciX1 0 rfl (by decide) m_58 rfl rfl rfl rfl rfl (Nat.le_of_ble_eq_true rfl) rfl dX1_init_9 (fun H locs hW => ?_)
  refine lv_aload_n (pc := 12) hx hb dX1_init_12 rfl (lv_at hl 0 rfl) ?_
  refine lv_bipush (v := 7) (pc := 13) hx hb dX1_init_13 (by decide) ?_
  refine r_newa (a0 := (7, .inl (fun _ => 0))) X hW .int rfl m_47 1 rfl (by intro C h; cases h) (fun _ => rfl) (by decide) (by decide) (Nat.le_of_ble_eq_true rfl) ⟨Nat.le_of_ble_eq_true rfl, Nat.le_of_ble_eq_true rfl⟩ dX1_init_15 (fun q2 H hW => ?_)
  have hW : WD g A s _ _ [(h0, .inr (1, [.ref q1, .null, .int 0, .long 0, .long 0]))] := hW.pick [0] rfl rfl
  refine r_putF (ws' := [(h0, .inr (1, [.ref q1, .ref q2, .int 0, .long 0, .long 0]))]) X hin hW 0 ciX1 1 rfl (by decide) m_60 rfl rfl rfl rfl rfl (Nat.le_of_ble_eq_true rfl) rfl dX1_init_17 (fun H locs hW => ?_)
  exact e_v X hQ hr hW (u := []) [] rfl rfl (rfl) ⟨Nat.le_of_ble_eq_true rfl, Nat.le_of_ble_eq_true rfl⟩ dX1_init_20

set_option maxHeartbeats 4000000 in
set_option maxRecDepth 100000 in
theorem C_X5_init (l : Launch) (g : GG) (h0 : Nat) : MetV l g yX5_init cX5_init 1 none 1 4 391 [.ref h0] [(h0, .inr (5, [.null, .null, .null, .int 0, .null, .int 0]))] (fun u => u = []) := by
  refine MetV.of (own := RX5) rfl (by decide) (Nat.le_of_ble_eq_true rfl) ?_
  intro p e s m below meth c A ls args Q hQ X hr hin hW hl
  have hx := X.1
  have hb := X.2.1
  have hl : lv_has ls 1 [(0, .ref h0)] := hl
  refine lv_aload_n (pc := 0) hx hb dX5_init_0 rfl (lv_at hl 0 rfl) ?_
  refine W.objInit hx hb X.2.2.2.1 (X.2.2.2.2.1 _ m_86) (X.2.2.2.2.1 _ m_28) (X.2.2.2.2.1 _ m_29) rfl (by rw [X.2.2.1]; exact hl.1) rfl dX5_init_1 (Nat.le_of_ble_eq_true rfl) (Nat.le_of_ble_eq_true rfl) ?_
  refine W.eq (g2 := F0 m 4 ls []) rfl ?_
  refine lv_aload_n (pc := 4) hx hb dX5_init_4 rfl (lv_at hl 0 rfl) ?_
  refine lv_sipush (v := 128) (pc := 5) hx hb dX5_init_5 (by decide) ?_
  refine r_newa (a0 := (128, .inl (fun _ => 0))) X hW .int rfl m_47 1 rfl (by intro C h; cases h) (fun _ => rfl) (by decide) (by decide) (Nat.le_of_ble_eq_true rfl) ⟨Nat.le_of_ble_eq_true rfl, Nat.le_of_ble_eq_true rfl⟩ dX5_init_8 (fun q1 H hW => ?_)
  have hW : WD g A s _ _ [(h0, .inr (5, [.null, .null, .null, .int 0, .null, .int 0]))] := hW.pick [0] rfl rfl
  refine r_putF (ws' := [(h0, .inr (5, [.ref q1, .null, .null, .int 0, .null, .int 0]))]) X hin hW 0 ciX5 0 rfl (by decide) m_87 rfl rfl rfl rfl rfl (Nat.le_of_ble_eq_true rfl) rfl dX5_init_10 (fun H locs hW => ?_)
  refine lv_aload_n (pc := 13) hx hb dX5_init_13 rfl (lv_at hl 0 rfl) ?_
  refine lv_sipush (v := 128) (pc := 14) hx hb dX5_init_14 (by decide) ?_
  refine r_newa (a0 := (128, .inl (fun _ => 0))) X hW .int rfl m_47 1 rfl (by intro C h; cases h) (fun _ => rfl) (by decide) (by decide) (Nat.le_of_ble_eq_true rfl) ⟨Nat.le_of_ble_eq_true rfl, Nat.le_of_ble_eq_true rfl⟩ dX5_init_17 (fun q2 H hW => ?_)
  have hW : WD g A s _ _ [(h0, .inr (5, [.ref q1, .null, .null, .int 0, .null, .int 0]))] := hW.pick [0] rfl rfl
  refine r_putF (ws' := [(h0, .inr (5, [.ref q1, .ref q2, .null, .int 0, .null, .int 0]))]) X hin hW 0 ciX5 1 rfl (by decide) m_89 rfl rfl rfl rfl rfl (Nat.le_of_ble_eq_true rfl) rfl dX5_init_19 (fun H locs hW => ?_)
  refine lv_aload_n (pc := 22) hx hb dX5_init_22 rfl (lv_at hl 0 rfl) ?_
  refine lv_sipush (v := 128) (pc := 23) hx hb dX5_init_23 (by decide) ?_
  refine r_newa (a0 := (128, .inl (fun _ => 0))) X hW .boolean rfl m_109 3 rfl (by intro C h; cases h) (fun _ => rfl) (by decide) (by decide) (Nat.le_of_ble_eq_true rfl) ⟨Nat.le_of_ble_eq_true rfl, Nat.le_of_ble_eq_true rfl⟩ dX5_init_26 (fun q3 H hW => ?_)
  have hW : WD g A s _ _ [(h0, .inr (5, [.ref q1, .ref q2, .null, .int 0, .null, .int 0]))] := hW.pick [0] rfl rfl
  refine r_putF (ws' := [(h0, .inr (5, [.ref q1, .ref q2, .ref q3, .int 0, .null, .int 0]))]) X hin hW 0 ciX5 2 rfl (by decide) m_91 rfl rfl rfl rfl rfl (Nat.le_of_ble_eq_true rfl) rfl dX5_init_28 (fun H locs hW => ?_)
  refine lv_aload_n (pc := 31) hx hb dX5_init_31 rfl (lv_at hl 0 rfl) ?_
  refine lv_bipush (v := 7) (pc := 32) hx hb dX5_init_32 (by decide) ?_
  refine r_newa (a0 := (7, .inl (fun _ => 0))) X hW .int rfl m_47 1 rfl (by intro C h; cases h) (fun _ => rfl) (by decide) (by decide) (Nat.le_of_ble_eq_true rfl) ⟨Nat.le_of_ble_eq_true rfl, Nat.le_of_ble_eq_true rfl⟩ dX5_init_34 (fun q4 H hW => ?_)
  have hW : WD g A s _ _ [(h0, .inr (5, [.ref q1, .ref q2, .ref q3, .int 0, .null, .int 0]))] := hW.pick [0] rfl rfl
  refine r_putF (ws' := [(h0, .inr (5, [.ref q1, .ref q2, .ref q3, .int 0, .ref q4, .int 0]))]) X hin hW 0 ciX5 4 rfl (by decide) m_94 rfl rfl rfl rfl rfl (Nat.le_of_ble_eq_true rfl) rfl dX5_init_36 (fun H locs hW => ?_)
  exact e_v X hQ hr hW (u := []) [] rfl rfl (rfl) ⟨Nat.le_of_ble_eq_true rfl, Nat.le_of_ble_eq_true rfl⟩ dX5_init_39

set_option maxHeartbeats 4000000 in
set_option maxRecDepth 100000 in
theorem C_X6_init (l : Launch) (g : GG) (h0 : Nat) : MetV l g yX6_init cX6_init 1 none 1 0 0 [.ref h0] [(h0, .inr (6, [.null, .int 0, .int 0, .int 0, .int 0]))] (fun u => u = []) := by
  refine MetV.of (own := RX6) rfl (by decide) (Nat.le_of_ble_eq_true rfl) ?_
  intro p e s m below meth c A ls args Q hQ X hr hin hW hl
  have hx := X.1
  have hb := X.2.1
  have hl : lv_has ls 1 [(0, .ref h0)] := hl
  refine lv_aload_n (pc := 0) hx hb dX6_init_0 rfl (lv_at hl 0 rfl) ?_
  refine W.objInit hx hb X.2.2.2.1 (X.2.2.2.2.1 _ m_173) (X.2.2.2.2.1 _ m_28) (X.2.2.2.2.1 _ m_29) rfl (by rw [X.2.2.1]; exact hl.1) rfl dX6_init_1 (Nat.le_of_ble_eq_true rfl) (Nat.le_of_ble_eq_true rfl) ?_
  refine W.eq (g2 := F0 m 4 ls []) rfl ?_
  exact e_v X hQ hr hW (u := []) [] rfl rfl (rfl) ⟨Nat.le_of_ble_eq_true rfl, Nat.le_of_ble_eq_true rfl⟩ dX6_init_4

set_option maxHeartbeats 4000000 in
set_option maxRecDepth 100000 in
theorem C_X3_init (l : Launch) (g : GG) (h0 : Nat) : MetV l g yX3_init cX3_init 1 none 1 1 5 [.ref h0] [(h0, .inr (3, [.null, .int 0, .null]))] (fun u => u = []) := by
  refine MetV.of (own := RX3) rfl (by decide) (Nat.le_of_ble_eq_true rfl) ?_
  intro p e s m below meth c A ls args Q hQ X hr hin hW hl
  have hx := X.1
  have hb := X.2.1
  have hl : lv_has ls 1 [(0, .ref h0)] := hl
  refine lv_aload_n (pc := 0) hx hb dX3_init_0 rfl (lv_at hl 0 rfl) ?_
  refine W.objInit hx hb X.2.2.2.1 (X.2.2.2.2.1 _ m_195) (X.2.2.2.2.1 _ m_28) (X.2.2.2.2.1 _ m_29) rfl (by rw [X.2.2.1]; exact hl.1) rfl dX3_init_1 (Nat.le_of_ble_eq_true rfl) (Nat.le_of_ble_eq_true rfl) ?_
  refine W.eq (g2 := F0 m 4 ls []) rfl ?_
  refine lv_aload_n (pc := 4) hx hb dX3_init_4 rfl (lv_at hl 0 rfl) ?_
  refine lv_iconst (v := 5) (pc := 5) hx hb dX3_init_5 (by decide) ?_
  refine r_newa (a0 := (5, .inl (fun _ => 0))) X hW .int rfl m_47 1 rfl (by intro C h; cases h) (fun _ => rfl) (by decide) (by decide) (Nat.le_of_ble_eq_true rfl) ⟨Nat.le_of_ble_eq_true rfl, Nat.le_of_ble_eq_true rfl⟩ dX3_init_6 (fun q1 H hW => ?_)
  have hW : WD g A s _ _ [(h0, .inr (3, [.null, .int 0, .null]))] := hW.pick [0] rfl rfl
  refine r_putF (ws' := [(h0, .inr (3, [.null, .int 0, .ref q1]))]) X hin hW 0 ciX3 2 rfl (by decide) m_198 rfl rfl rfl rfl rfl (Nat.le_of_ble_eq_true rfl) rfl dX3_init_8 (fun H locs hW => ?_)
  exact e_v X hQ hr hW (u := []) [] rfl rfl (rfl) ⟨Nat.le_of_ble_eq_true rfl, Nat.le_of_ble_eq_true rfl⟩ dX3_init_11

set_option maxHeartbeats 4000000 in
set_option maxRecDepth 100000 in
theorem C_X9_init (l : Launch) (g : GG) (h0 : Nat) : MetV l g yX9_init cX9_init 1 none 1 3 8198 [.ref h0] [(h0, .inr (9, [.null, .null, .null]))] (fun u => u = []) := by
  refine MetV.of (own := RX9) rfl (by decide) (Nat.le_of_ble_eq_true rfl) ?_
  intro p e s m below meth c A ls args Q hQ X hr hin hW hl
  have hx := X.1
  have hb := X.2.1
  have hl : lv_has ls 1 [(0, .ref h0)] := hl
  refine lv_aload_n (pc := 0) hx hb dX9_init_0 rfl (lv_at hl 0 rfl) ?_
  refine W.objInit hx hb X.2.2.2.1 (X.2.2.2.2.1 _ m_211) (X.2.2.2.2.1 _ m_28) (X.2.2.2.2.1 _ m_29) rfl (by rw [X.2.2.1]; exact hl.1) rfl dX9_init_1 (Nat.le_of_ble_eq_true rfl) (Nat.le_of_ble_eq_true rfl) ?_
  refine W.eq (g2 := F0 m 4 ls []) rfl ?_
  refine lv_aload_n (pc := 4) hx hb dX9_init_4 rfl (lv_at hl 0 rfl) ?_
  refine lv_sipush (v := 4096) (pc := 5) hx hb dX9_init_5 (by decide) ?_
  refine r_newa (a0 := (4096, .inl (fun _ => 0))) X hW .int rfl m_47 1 rfl (by intro C h; cases h) (fun _ => rfl) (by decide) (by decide) (Nat.le_of_ble_eq_true rfl) ⟨Nat.le_of_ble_eq_true rfl, Nat.le_of_ble_eq_true rfl⟩ dX9_init_8 (fun q1 H hW => ?_)
  have hW : WD g A s _ _ [(h0, .inr (9, [.null, .null, .null]))] := hW.pick [0] rfl rfl
  refine r_put (ws' := [(h0, .inr (9, [.ref q1, .null, .null]))]) X hW 0 ciX9 0 rfl (by decide) m_214 rfl rfl rfl rfl (Nat.le_of_ble_eq_true rfl) rfl dX9_init_10 (fun H locs hW => ?_)
  refine lv_aload_n (pc := 13) hx hb dX9_init_13 rfl (lv_at hl 0 rfl) ?_
  refine lv_sipush (v := 4096) (pc := 14) hx hb dX9_init_14 (by decide) ?_
  refine r_newa (a0 := (4096, .inl (fun _ => 0))) X hW .int rfl m_47 1 rfl (by intro C h; cases h) (fun _ => rfl) (by decide) (by decide) (Nat.le_of_ble_eq_true rfl) ⟨Nat.le_of_ble_eq_true rfl, Nat.le_of_ble_eq_true rfl⟩ dX9_init_17 (fun q2 H hW => ?_)
  have hW : WD g A s _ _ [(h0, .inr (9, [.ref q1, .null, .null]))] := hW.pick [0] rfl rfl
  refine r_put (ws' := [(h0, .inr (9, [.ref q1, .ref q2, .null]))]) X hW 0 ciX9 1 rfl (by decide) m_215 rfl rfl rfl rfl (Nat.le_of_ble_eq_true rfl) rfl dX9_init_19 (fun H locs hW => ?_)
  refine lv_aload_n (pc := 22) hx hb dX9_init_22 rfl (lv_at hl 0 rfl) ?_
  refine va_gets (pc := 23) hx hb X.2.2.2.2.2.2.1.1.1 hW.2.2 X.2.2.2.1 (X.2.2.2.2.1 _ m_212) (fun _ h9 => h9) dX9_init_23 ?_
  refine va_tlen (pc := 26) (v := 6) hx hb X.2.2.2.2.2.2.1.1.2 hW.2.2 rfl dX9_init_26 ?_
  refine r_newa (a0 := (6, .inl (fun _ => 0))) X hW .boolean rfl m_109 3 rfl (by intro C h; cases h) (fun _ => rfl) (by decide) (by decide) (Nat.le_of_ble_eq_true rfl) ⟨Nat.le_of_ble_eq_true rfl, Nat.le_of_ble_eq_true rfl⟩ dX9_init_27 (fun q3 H hW => ?_)
  have hW : WD g A s _ _ [(h0, .inr (9, [.ref q1, .ref q2, .null]))] := hW.pick [0] rfl rfl
  refine r_putF (ws' := [(h0, .inr (9, [.ref q1, .ref q2, .ref q3]))]) X hin hW 0 ciX9 2 rfl (by decide) m_216 rfl rfl rfl rfl rfl (Nat.le_of_ble_eq_true rfl) rfl dX9_init_29 (fun H locs hW => ?_)
  exact e_v X hQ hr hW (u := []) [] rfl rfl (rfl) ⟨Nat.le_of_ble_eq_true rfl, Nat.le_of_ble_eq_true rfl⟩ dX9_init_32

set_option maxHeartbeats 4000000 in
set_option maxRecDepth 100000 in
theorem C_X0_init (l : Launch) (g : GG) (h0 : Nat) : MetV l g yX0_init cX0_init 1 none 1 4 28 [.ref h0] [(h0, .inr (0, [.null, .int 0, .int 0, .null, .null, .null, .null]))] (fun u => u = []) := by
  refine MetV.of (own := RX0) rfl (by decide) (Nat.le_of_ble_eq_true rfl) ?_
  intro p e s m below meth c A ls args Q hQ X hr hin hW hl
  have hx := X.1
  have hb := X.2.1
  have hl : lv_has ls 1 [(0, .ref h0)] := hl
  refine lv_aload_n (pc := 0) hx hb dX0_init_0 rfl (lv_at hl 0 rfl) ?_
  refine W.objInit hx hb X.2.2.2.1 (X.2.2.2.2.1 _ m_229) (X.2.2.2.2.1 _ m_28) (X.2.2.2.2.1 _ m_29) rfl (by rw [X.2.2.1]; exact hl.1) rfl dX0_init_1 (Nat.le_of_ble_eq_true rfl) (Nat.le_of_ble_eq_true rfl) ?_
  refine W.eq (g2 := F0 m 4 ls []) rfl ?_
  refine lv_aload_n (pc := 4) hx hb dX0_init_4 rfl (lv_at hl 0 rfl) ?_
  refine lv_bipush (v := 7) (pc := 5) hx hb dX0_init_5 (by decide) ?_
  refine r_newa (a0 := (7, .inl (fun _ => 0))) X hW .int rfl m_47 1 rfl (by intro C h; cases h) (fun _ => rfl) (by decide) (by decide) (Nat.le_of_ble_eq_true rfl) ⟨Nat.le_of_ble_eq_true rfl, Nat.le_of_ble_eq_true rfl⟩ dX0_init_7 (fun q1 H hW => ?_)
  have hW : WD g A s _ _ [(h0, .inr (0, [.null, .int 0, .int 0, .null, .null, .null, .null]))] := hW.pick [0] rfl rfl
  refine r_putF (ws' := [(h0, .inr (0, [.null, .int 0, .int 0, .ref q1, .null, .null, .null]))]) X hin hW 0 ciX0 3 rfl (by decide) m_233 rfl rfl rfl rfl rfl (Nat.le_of_ble_eq_true rfl) rfl dX0_init_9 (fun H locs hW => ?_)
  refine lv_aload_n (pc := 12) hx hb dX0_init_12 rfl (lv_at hl 0 rfl) ?_
  refine lv_bipush (v := 7) (pc := 13) hx hb dX0_init_13 (by decide) ?_
  refine r_newa (a0 := (7, .inl (fun _ => 0))) X hW .int rfl m_47 1 rfl (by intro C h; cases h) (fun _ => rfl) (by decide) (by decide) (Nat.le_of_ble_eq_true rfl) ⟨Nat.le_of_ble_eq_true rfl, Nat.le_of_ble_eq_true rfl⟩ dX0_init_15 (fun q2 H hW => ?_)
  have hW : WD g A s _ _ [(h0, .inr (0, [.null, .int 0, .int 0, .ref q1, .null, .null, .null]))] := hW.pick [0] rfl rfl
  refine r_putF (ws' := [(h0, .inr (0, [.null, .int 0, .int 0, .ref q1, .ref q2, .null, .null]))]) X hin hW 0 ciX0 4 rfl (by decide) m_234 rfl rfl rfl rfl rfl (Nat.le_of_ble_eq_true rfl) rfl dX0_init_17 (fun H locs hW => ?_)
  refine lv_aload_n (pc := 20) hx hb dX0_init_20 rfl (lv_at hl 0 rfl) ?_
  refine lv_bipush (v := 7) (pc := 21) hx hb dX0_init_21 (by decide) ?_
  refine r_newa (a0 := (7, .inl (fun _ => 0))) X hW .int rfl m_47 1 rfl (by intro C h; cases h) (fun _ => rfl) (by decide) (by decide) (Nat.le_of_ble_eq_true rfl) ⟨Nat.le_of_ble_eq_true rfl, Nat.le_of_ble_eq_true rfl⟩ dX0_init_23 (fun q3 H hW => ?_)
  have hW : WD g A s _ _ [(h0, .inr (0, [.null, .int 0, .int 0, .ref q1, .ref q2, .null, .null]))] := hW.pick [0] rfl rfl
  refine r_putF (ws' := [(h0, .inr (0, [.null, .int 0, .int 0, .ref q1, .ref q2, .ref q3, .null]))]) X hin hW 0 ciX0 5 rfl (by decide) m_236 rfl rfl rfl rfl rfl (Nat.le_of_ble_eq_true rfl) rfl dX0_init_25 (fun H locs hW => ?_)
  refine lv_aload_n (pc := 28) hx hb dX0_init_28 rfl (lv_at hl 0 rfl) ?_
  refine lv_bipush (v := 7) (pc := 29) hx hb dX0_init_29 (by decide) ?_
  refine r_newa (a0 := (7, .inl (fun _ => 0))) X hW .int rfl m_47 1 rfl (by intro C h; cases h) (fun _ => rfl) (by decide) (by decide) (Nat.le_of_ble_eq_true rfl) ⟨Nat.le_of_ble_eq_true rfl, Nat.le_of_ble_eq_true rfl⟩ dX0_init_31 (fun q4 H hW => ?_)
  have hW : WD g A s _ _ [(h0, .inr (0, [.null, .int 0, .int 0, .ref q1, .ref q2, .ref q3, .null]))] := hW.pick [0] rfl rfl
  refine r_putF (ws' := [(h0, .inr (0, [.null, .int 0, .int 0, .ref q1, .ref q2, .ref q3, .ref q4]))]) X hin hW 0 ciX0 6 rfl (by decide) m_237 rfl rfl rfl rfl rfl (Nat.le_of_ble_eq_true rfl) rfl dX0_init_33 (fun H locs hW => ?_)
  exact e_v X hQ hr hW (u := []) [] rfl rfl (rfl) ⟨Nat.le_of_ble_eq_true rfl, Nat.le_of_ble_eq_true rfl⟩ dX0_init_36

set_option maxHeartbeats 4000000 in
set_option maxRecDepth 100000 in
theorem C_X2_init (l : Launch) (g : GG) (h0 : Nat) : MetV l g yX2_init cX2_init 1 none 1 2 10 [.ref h0] [(h0, .inr (2, [.null, .null]))] (fun u => ∃ q1 q2 : Nat, u = [(h0, .inr (2, [.ref q1, .ref q2])), (q1, .inl (g.2.1 2, 5, .inr (.inl (fun _ => 0)))), (q2, .inl (g.2.1 2, 5, .inr (.inl (fun _ => 0))))]) := by
  refine MetV.of (own := RX2) rfl (by decide) (Nat.le_of_ble_eq_true rfl) ?_
  intro p e s m below meth c A ls args Q hQ X hr hin hW hl
  have hx := X.1
  have hb := X.2.1
  have hl : lv_has ls 1 [(0, .ref h0)] := hl
  refine lv_aload_n (pc := 0) hx hb dX2_init_0 rfl (lv_at hl 0 rfl) ?_
  refine W.objInit hx hb X.2.2.2.1 (X.2.2.2.2.1 _ m_258) (X.2.2.2.2.1 _ m_28) (X.2.2.2.2.1 _ m_29) rfl (by rw [X.2.2.1]; exact hl.1) rfl dX2_init_1 (Nat.le_of_ble_eq_true rfl) (Nat.le_of_ble_eq_true rfl) ?_
  refine W.eq (g2 := F0 m 4 ls []) rfl ?_
  refine lv_aload_n (pc := 4) hx hb dX2_init_4 rfl (lv_at hl 0 rfl) ?_
  refine lv_iconst (v := 5) (pc := 5) hx hb dX2_init_5 (by decide) ?_
  refine r_newa (a0 := (5, .inr (.inl (fun _ => 0)))) X hW .long rfl m_266 2 rfl (by intro C h; cases h) (fun _ => rfl) (by decide) (by decide) (Nat.le_of_ble_eq_true rfl) ⟨Nat.le_of_ble_eq_true rfl, Nat.le_of_ble_eq_true rfl⟩ dX2_init_6 (fun q1 H hW => ?_)
  have hW : WD g A s _ _ [(h0, .inr (2, [.null, .null])), (q1, .inl (g.2.1 2, 5, .inr (.inl (fun _ => 0))))] := hW
  refine r_put (ws' := [(h0, .inr (2, [.ref q1, .null])), (q1, .inl (g.2.1 2, 5, .inr (.inl (fun _ => 0))))]) X hW 0 ciX2 0 rfl (by decide) m_259 rfl rfl rfl rfl (Nat.le_of_ble_eq_true rfl) rfl dX2_init_8 (fun H locs hW => ?_)
  refine lv_aload_n (pc := 11) hx hb dX2_init_11 rfl (lv_at hl 0 rfl) ?_
  refine lv_iconst (v := 5) (pc := 12) hx hb dX2_init_12 (by decide) ?_
  refine r_newa (a0 := (5, .inr (.inl (fun _ => 0)))) X hW .long rfl m_266 2 rfl (by intro C h; cases h) (fun _ => rfl) (by decide) (by decide) (Nat.le_of_ble_eq_true rfl) ⟨Nat.le_of_ble_eq_true rfl, Nat.le_of_ble_eq_true rfl⟩ dX2_init_13 (fun q2 H hW => ?_)
  have hW : WD g A s _ _ [(h0, .inr (2, [.ref q1, .null])), (q1, .inl (g.2.1 2, 5, .inr (.inl (fun _ => 0)))), (q2, .inl (g.2.1 2, 5, .inr (.inl (fun _ => 0))))] := hW
  refine r_put (ws' := [(h0, .inr (2, [.ref q1, .ref q2])), (q1, .inl (g.2.1 2, 5, .inr (.inl (fun _ => 0)))), (q2, .inl (g.2.1 2, 5, .inr (.inl (fun _ => 0))))]) X hW 0 ciX2 1 rfl (by decide) m_260 rfl rfl rfl rfl (Nat.le_of_ble_eq_true rfl) rfl dX2_init_15 (fun H locs hW => ?_)
  exact e_v X hQ hr hW (u := [(h0, .inr (2, [.ref q1, .ref q2])), (q1, .inl (g.2.1 2, 5, .inr (.inl (fun _ => 0)))), (q2, .inl (g.2.1 2, 5, .inr (.inl (fun _ => 0))))]) [0, 1, 2] rfl rfl (⟨q1, q2, rfl⟩) ⟨Nat.le_of_ble_eq_true rfl, Nat.le_of_ble_eq_true rfl⟩ dX2_init_18

set_option maxHeartbeats 4000000 in
set_option maxRecDepth 100000 in
theorem C_X10_init (l : Launch) (g : GG) (h0 : Nat) : MetV l g yX10_init cX10_init 1 none 1 12 364 [.ref h0] [(h0, .inr (10, [.int 0, .int 0, .int 0, .null, .null, .null, .null, .null, .null, .null, .null, .null, .null, .null, .int 0, .null]))] (fun u => ∃ q1 q2 q3 q4 q5 q6 q7 q8 q9 q10 q11 q12 : Nat, u = [(h0, .inr (10, [.int 0, .int 0, .int 0, .ref q1, .ref q2, .ref q3, .ref q4, .ref q5, .ref q6, .ref q7, .ref q8, .ref q9, .ref q10, .ref q11, .int (-2), .ref q12])), (q1, .inl (g.2.1 1, 4, .inl (fun _ => 0))), (q2, .inl (g.2.1 1, 4, .inl (fun _ => 0))), (q3, .inl (g.2.1 1, 4, .inl (fun _ => 0)))]) := by
  refine MetV.of (own := RX10) rfl (by decide) (Nat.le_of_ble_eq_true rfl) ?_
  intro p e s m below meth c A ls args Q hQ X hr hin hW hl
  have hx := X.1
  have hb := X.2.1
  have hl : lv_has ls 1 [(0, .ref h0)] := hl
  refine lv_aload_n (pc := 0) hx hb dX10_init_0 rfl (lv_at hl 0 rfl) ?_
  refine W.objInit hx hb X.2.2.2.1 (X.2.2.2.2.1 _ m_271) (X.2.2.2.2.1 _ m_28) (X.2.2.2.2.1 _ m_29) rfl (by rw [X.2.2.1]; exact hl.1) rfl dX10_init_1 (Nat.le_of_ble_eq_true rfl) (Nat.le_of_ble_eq_true rfl) ?_
  refine W.eq (g2 := F0 m 4 ls []) rfl ?_
  refine lv_aload_n (pc := 4) hx hb dX10_init_4 rfl (lv_at hl 0 rfl) ?_
  refine lv_iconst (v := 4) (pc := 5) hx hb dX10_init_5 (by decide) ?_
  refine r_newa (a0 := (4, .inl (fun _ => 0))) X hW .int rfl m_47 1 rfl (by intro C h; cases h) (fun _ => rfl) (by decide) (by decide) (Nat.le_of_ble_eq_true rfl) ⟨Nat.le_of_ble_eq_true rfl, Nat.le_of_ble_eq_true rfl⟩ dX10_init_6 (fun q1 H hW => ?_)
  have hW : WD g A s _ _ [(h0, .inr (10, [.int 0, .int 0, .int 0, .null, .null, .null, .null, .null, .null, .null, .null, .null, .null, .null, .int 0, .null])), (q1, .inl (g.2.1 1, 4, .inl (fun _ => 0)))] := hW
  refine r_putF (ws' := [(h0, .inr (10, [.int 0, .int 0, .int 0, .ref q1, .null, .null, .null, .null, .null, .null, .null, .null, .null, .null, .int 0, .null])), (q1, .inl (g.2.1 1, 4, .inl (fun _ => 0)))]) X hin hW 0 ciX10 3 rfl (by decide) m_291 rfl rfl rfl rfl rfl (Nat.le_of_ble_eq_true rfl) rfl dX10_init_8 (fun H locs hW => ?_)
  refine lv_aload_n (pc := 11) hx hb dX10_init_11 rfl (lv_at hl 0 rfl) ?_
  refine lv_iconst (v := 4) (pc := 12) hx hb dX10_init_12 (by decide) ?_
  refine r_newa (a0 := (4, .inl (fun _ => 0))) X hW .int rfl m_47 1 rfl (by intro C h; cases h) (fun _ => rfl) (by decide) (by decide) (Nat.le_of_ble_eq_true rfl) ⟨Nat.le_of_ble_eq_true rfl, Nat.le_of_ble_eq_true rfl⟩ dX10_init_13 (fun q2 H hW => ?_)
  have hW : WD g A s _ _ [(h0, .inr (10, [.int 0, .int 0, .int 0, .ref q1, .null, .null, .null, .null, .null, .null, .null, .null, .null, .null, .int 0, .null])), (q1, .inl (g.2.1 1, 4, .inl (fun _ => 0))), (q2, .inl (g.2.1 1, 4, .inl (fun _ => 0)))] := hW
  refine r_putF (ws' := [(h0, .inr (10, [.int 0, .int 0, .int 0, .ref q1, .ref q2, .null, .null, .null, .null, .null, .null, .null, .null, .null, .int 0, .null])), (q1, .inl (g.2.1 1, 4, .inl (fun _ => 0))), (q2, .inl (g.2.1 1, 4, .inl (fun _ => 0)))]) X hin hW 0 ciX10 4 rfl (by decide) m_296 rfl rfl rfl rfl rfl (Nat.le_of_ble_eq_true rfl) rfl dX10_init_15 (fun H locs hW => ?_)
  refine lv_aload_n (pc := 18) hx hb dX10_init_18 rfl (lv_at hl 0 rfl) ?_
  refine lv_iconst (v := 4) (pc := 19) hx hb dX10_init_19 (by decide) ?_
  refine r_newa (a0 := (4, .inl (fun _ => 0))) X hW .int rfl m_47 1 rfl (by intro C h; cases h) (fun _ => rfl) (by decide) (by decide) (Nat.le_of_ble_eq_true rfl) ⟨Nat.le_of_ble_eq_true rfl, Nat.le_of_ble_eq_true rfl⟩ dX10_init_20 (fun q3 H hW => ?_)
  have hW : WD g A s _ _ [(h0, .inr (10, [.int 0, .int 0, .int 0, .ref q1, .ref q2, .null, .null, .null, .null, .null, .null, .null, .null, .null, .int 0, .null])), (q1, .inl (g.2.1 1, 4, .inl (fun _ => 0))), (q2, .inl (g.2.1 1, 4, .inl (fun _ => 0))), (q3, .inl (g.2.1 1, 4, .inl (fun _ => 0)))] := hW
  refine r_putF (ws' := [(h0, .inr (10, [.int 0, .int 0, .int 0, .ref q1, .ref q2, .ref q3, .null, .null, .null, .null, .null, .null, .null, .null, .int 0, .null])), (q1, .inl (g.2.1 1, 4, .inl (fun _ => 0))), (q2, .inl (g.2.1 1, 4, .inl (fun _ => 0))), (q3, .inl (g.2.1 1, 4, .inl (fun _ => 0)))]) X hin hW 0 ciX10 5 rfl (by decide) m_300 rfl rfl rfl rfl rfl (Nat.le_of_ble_eq_true rfl) rfl dX10_init_22 (fun H locs hW => ?_)
  refine lv_aload_n (pc := 25) hx hb dX10_init_25 rfl (lv_at hl 0 rfl) ?_
  refine lv_bipush (v := 7) (pc := 26) hx hb dX10_init_26 (by decide) ?_
  refine r_newa (a0 := (7, .inl (fun _ => 0))) X hW .int rfl m_47 1 rfl (by intro C h; cases h) (fun _ => rfl) (by decide) (by decide) (Nat.le_of_ble_eq_true rfl) ⟨Nat.le_of_ble_eq_true rfl, Nat.le_of_ble_eq_true rfl⟩ dX10_init_28 (fun q4 H hW => ?_)
  have hW : WD g A s _ _ [(h0, .inr (10, [.int 0, .int 0, .int 0, .ref q1, .ref q2, .ref q3, .null, .null, .null, .null, .null, .null, .null, .null, .int 0, .null])), (q1, .inl (g.2.1 1, 4, .inl (fun _ => 0))), (q2, .inl (g.2.1 1, 4, .inl (fun _ => 0))), (q3, .inl (g.2.1 1, 4, .inl (fun _ => 0)))] := hW.pick [0, 1, 2, 3] rfl rfl
  refine r_putF (ws' := [(h0, .inr (10, [.int 0, .int 0, .int 0, .ref q1, .ref q2, .ref q3, .ref q4, .null, .null, .null, .null, .null, .null, .null, .int 0, .null])), (q1, .inl (g.2.1 1, 4, .inl (fun _ => 0))), (q2, .inl (g.2.1 1, 4, .inl (fun _ => 0))), (q3, .inl (g.2.1 1, 4, .inl (fun _ => 0)))]) X hin hW 0 ciX10 6 rfl (by decide) m_304 rfl rfl rfl rfl rfl (Nat.le_of_ble_eq_true rfl) rfl dX10_init_30 (fun H locs hW => ?_)
  refine lv_aload_n (pc := 33) hx hb dX10_init_33 rfl (lv_at hl 0 rfl) ?_
  refine lv_bipush (v := 7) (pc := 34) hx hb dX10_init_34 (by decide) ?_
  refine r_newa (a0 := (7, .inl (fun _ => 0))) X hW .int rfl m_47 1 rfl (by intro C h; cases h) (fun _ => rfl) (by decide) (by decide) (Nat.le_of_ble_eq_true rfl) ⟨Nat.le_of_ble_eq_true rfl, Nat.le_of_ble_eq_true rfl⟩ dX10_init_36 (fun q5 H hW => ?_)
  have hW : WD g A s _ _ [(h0, .inr (10, [.int 0, .int 0, .int 0, .ref q1, .ref q2, .ref q3, .ref q4, .null, .null, .null, .null, .null, .null, .null, .int 0, .null])), (q1, .inl (g.2.1 1, 4, .inl (fun _ => 0))), (q2, .inl (g.2.1 1, 4, .inl (fun _ => 0))), (q3, .inl (g.2.1 1, 4, .inl (fun _ => 0)))] := hW.pick [0, 1, 2, 3] rfl rfl
  refine r_putF (ws' := [(h0, .inr (10, [.int 0, .int 0, .int 0, .ref q1, .ref q2, .ref q3, .ref q4, .ref q5, .null, .null, .null, .null, .null, .null, .int 0, .null])), (q1, .inl (g.2.1 1, 4, .inl (fun _ => 0))), (q2, .inl (g.2.1 1, 4, .inl (fun _ => 0))), (q3, .inl (g.2.1 1, 4, .inl (fun _ => 0)))]) X hin hW 0 ciX10 7 rfl (by decide) m_306 rfl rfl rfl rfl rfl (Nat.le_of_ble_eq_true rfl) rfl dX10_init_38 (fun H locs hW => ?_)
  refine lv_aload_n (pc := 41) hx hb dX10_init_41 rfl (lv_at hl 0 rfl) ?_
  refine lv_bipush (v := 7) (pc := 42) hx hb dX10_init_42 (by decide) ?_
  refine r_newa (a0 := (7, .inl (fun _ => 0))) X hW .int rfl m_47 1 rfl (by intro C h; cases h) (fun _ => rfl) (by decide) (by decide) (Nat.le_of_ble_eq_true rfl) ⟨Nat.le_of_ble_eq_true rfl, Nat.le_of_ble_eq_true rfl⟩ dX10_init_44 (fun q6 H hW => ?_)
  have hW : WD g A s _ _ [(h0, .inr (10, [.int 0, .int 0, .int 0, .ref q1, .ref q2, .ref q3, .ref q4, .ref q5, .null, .null, .null, .null, .null, .null, .int 0, .null])), (q1, .inl (g.2.1 1, 4, .inl (fun _ => 0))), (q2, .inl (g.2.1 1, 4, .inl (fun _ => 0))), (q3, .inl (g.2.1 1, 4, .inl (fun _ => 0)))] := hW.pick [0, 1, 2, 3] rfl rfl
  refine r_putF (ws' := [(h0, .inr (10, [.int 0, .int 0, .int 0, .ref q1, .ref q2, .ref q3, .ref q4, .ref q5, .ref q6, .null, .null, .null, .null, .null, .int 0, .null])), (q1, .inl (g.2.1 1, 4, .inl (fun _ => 0))), (q2, .inl (g.2.1 1, 4, .inl (fun _ => 0))), (q3, .inl (g.2.1 1, 4, .inl (fun _ => 0)))]) X hin hW 0 ciX10 8 rfl (by decide) m_308 rfl rfl rfl rfl rfl (Nat.le_of_ble_eq_true rfl) rfl dX10_init_46 (fun H locs hW => ?_)
  refine lv_aload_n (pc := 49) hx hb dX10_init_49 rfl (lv_at hl 0 rfl) ?_
  refine lv_bipush (v := 72) (pc := 50) hx hb dX10_init_50 (by decide) ?_
  refine r_newa (a0 := (72, .inl (fun _ => 0))) X hW .int rfl m_47 1 rfl (by intro C h; cases h) (fun _ => rfl) (by decide) (by decide) (Nat.le_of_ble_eq_true rfl) ⟨Nat.le_of_ble_eq_true rfl, Nat.le_of_ble_eq_true rfl⟩ dX10_init_52 (fun q7 H hW => ?_)
  have hW : WD g A s _ _ [(h0, .inr (10, [.int 0, .int 0, .int 0, .ref q1, .ref q2, .ref q3, .ref q4, .ref q5, .ref q6, .null, .null, .null, .null, .null, .int 0, .null])), (q1, .inl (g.2.1 1, 4, .inl (fun _ => 0))), (q2, .inl (g.2.1 1, 4, .inl (fun _ => 0))), (q3, .inl (g.2.1 1, 4, .inl (fun _ => 0)))] := hW.pick [0, 1, 2, 3] rfl rfl
  refine r_putF (ws' := [(h0, .inr (10, [.int 0, .int 0, .int 0, .ref q1, .ref q2, .ref q3, .ref q4, .ref q5, .ref q6, .ref q7, .null, .null, .null, .null, .int 0, .null])), (q1, .inl (g.2.1 1, 4, .inl (fun _ => 0))), (q2, .inl (g.2.1 1, 4, .inl (fun _ => 0))), (q3, .inl (g.2.1 1, 4, .inl (fun _ => 0)))]) X hin hW 0 ciX10 9 rfl (by decide) m_310 rfl rfl rfl rfl rfl (Nat.le_of_ble_eq_true rfl) rfl dX10_init_54 (fun H locs hW => ?_)
  refine lv_aload_n (pc := 57) hx hb dX10_init_57 rfl (lv_at hl 0 rfl) ?_
  refine lv_sipush (v := 175) (pc := 58) hx hb dX10_init_58 (by decide) ?_
  refine r_newa (a0 := (175, .inl (fun _ => 0))) X hW .int rfl m_47 1 rfl (by intro C h; cases h) (fun _ => rfl) (by decide) (by decide) (Nat.le_of_ble_eq_true rfl) ⟨Nat.le_of_ble_eq_true rfl, Nat.le_of_ble_eq_true rfl⟩ dX10_init_61 (fun q8 H hW => ?_)
  have hW : WD g A s _ _ [(h0, .inr (10, [.int 0, .int 0, .int 0, .ref q1, .ref q2, .ref q3, .ref q4, .ref q5, .ref q6, .ref q7, .null, .null, .null, .null, .int 0, .null])), (q1, .inl (g.2.1 1, 4, .inl (fun _ => 0))), (q2, .inl (g.2.1 1, 4, .inl (fun _ => 0))), (q3, .inl (g.2.1 1, 4, .inl (fun _ => 0)))] := hW.pick [0, 1, 2, 3] rfl rfl
  refine r_putF (ws' := [(h0, .inr (10, [.int 0, .int 0, .int 0, .ref q1, .ref q2, .ref q3, .ref q4, .ref q5, .ref q6, .ref q7, .ref q8, .null, .null, .null, .int 0, .null])), (q1, .inl (g.2.1 1, 4, .inl (fun _ => 0))), (q2, .inl (g.2.1 1, 4, .inl (fun _ => 0))), (q3, .inl (g.2.1 1, 4, .inl (fun _ => 0)))]) X hin hW 0 ciX10 10 rfl (by decide) m_311 rfl rfl rfl rfl rfl (Nat.le_of_ble_eq_true rfl) rfl dX10_init_63 (fun H locs hW => ?_)
  refine lv_aload_n (pc := 66) hx hb dX10_init_66 rfl (lv_at hl 0 rfl) ?_
  refine lv_bipush (v := 42) (pc := 67) hx hb dX10_init_67 (by decide) ?_
  refine r_newa (a0 := (42, .inl (fun _ => 0))) X hW .int rfl m_47 1 rfl (by intro C h; cases h) (fun _ => rfl) (by decide) (by decide) (Nat.le_of_ble_eq_true rfl) ⟨Nat.le_of_ble_eq_true rfl, Nat.le_of_ble_eq_true rfl⟩ dX10_init_69 (fun q9 H hW => ?_)
  have hW : WD g A s _ _ [(h0, .inr (10, [.int 0, .int 0, .int 0, .ref q1, .ref q2, .ref q3, .ref q4, .ref q5, .ref q6, .ref q7, .ref q8, .null, .null, .null, .int 0, .null])), (q1, .inl (g.2.1 1, 4, .inl (fun _ => 0))), (q2, .inl (g.2.1 1, 4, .inl (fun _ => 0))), (q3, .inl (g.2.1 1, 4, .inl (fun _ => 0)))] := hW.pick [0, 1, 2, 3] rfl rfl
  refine r_putF (ws' := [(h0, .inr (10, [.int 0, .int 0, .int 0, .ref q1, .ref q2, .ref q3, .ref q4, .ref q5, .ref q6, .ref q7, .ref q8, .ref q9, .null, .null, .int 0, .null])), (q1, .inl (g.2.1 1, 4, .inl (fun _ => 0))), (q2, .inl (g.2.1 1, 4, .inl (fun _ => 0))), (q3, .inl (g.2.1 1, 4, .inl (fun _ => 0)))]) X hin hW 0 ciX10 11 rfl (by decide) m_312 rfl rfl rfl rfl rfl (Nat.le_of_ble_eq_true rfl) rfl dX10_init_71 (fun H locs hW => ?_)
  refine lv_aload_n (pc := 74) hx hb dX10_init_74 rfl (lv_at hl 0 rfl) ?_
  refine lv_bipush (v := 7) (pc := 75) hx hb dX10_init_75 (by decide) ?_
  refine r_newa (a0 := (7, .inl (fun _ => 0))) X hW .int rfl m_47 1 rfl (by intro C h; cases h) (fun _ => rfl) (by decide) (by decide) (Nat.le_of_ble_eq_true rfl) ⟨Nat.le_of_ble_eq_true rfl, Nat.le_of_ble_eq_true rfl⟩ dX10_init_77 (fun q10 H hW => ?_)
  have hW : WD g A s _ _ [(h0, .inr (10, [.int 0, .int 0, .int 0, .ref q1, .ref q2, .ref q3, .ref q4, .ref q5, .ref q6, .ref q7, .ref q8, .ref q9, .null, .null, .int 0, .null])), (q1, .inl (g.2.1 1, 4, .inl (fun _ => 0))), (q2, .inl (g.2.1 1, 4, .inl (fun _ => 0))), (q3, .inl (g.2.1 1, 4, .inl (fun _ => 0)))] := hW.pick [0, 1, 2, 3] rfl rfl
  refine r_putF (ws' := [(h0, .inr (10, [.int 0, .int 0, .int 0, .ref q1, .ref q2, .ref q3, .ref q4, .ref q5, .ref q6, .ref q7, .ref q8, .ref q9, .ref q10, .null, .int 0, .null])), (q1, .inl (g.2.1 1, 4, .inl (fun _ => 0))), (q2, .inl (g.2.1 1, 4, .inl (fun _ => 0))), (q3, .inl (g.2.1 1, 4, .inl (fun _ => 0)))]) X hin hW 0 ciX10 12 rfl (by decide) m_313 rfl rfl rfl rfl rfl (Nat.le_of_ble_eq_true rfl) rfl dX10_init_79 (fun H locs hW => ?_)
  refine lv_aload_n (pc := 82) hx hb dX10_init_82 rfl (lv_at hl 0 rfl) ?_
  refine lv_bipush (v := 28) (pc := 83) hx hb dX10_init_83 (by decide) ?_
  refine r_newa (a0 := (28, .inl (fun _ => 0))) X hW .int rfl m_47 1 rfl (by intro C h; cases h) (fun _ => rfl) (by decide) (by decide) (Nat.le_of_ble_eq_true rfl) ⟨Nat.le_of_ble_eq_true rfl, Nat.le_of_ble_eq_true rfl⟩ dX10_init_85 (fun q11 H hW => ?_)
  have hW : WD g A s _ _ [(h0, .inr (10, [.int 0, .int 0, .int 0, .ref q1, .ref q2, .ref q3, .ref q4, .ref q5, .ref q6, .ref q7, .ref q8, .ref q9, .ref q10, .null, .int 0, .null])), (q1, .inl (g.2.1 1, 4, .inl (fun _ => 0))), (q2, .inl (g.2.1 1, 4, .inl (fun _ => 0))), (q3, .inl (g.2.1 1, 4, .inl (fun _ => 0)))] := hW.pick [0, 1, 2, 3] rfl rfl
  refine r_putF (ws' := [(h0, .inr (10, [.int 0, .int 0, .int 0, .ref q1, .ref q2, .ref q3, .ref q4, .ref q5, .ref q6, .ref q7, .ref q8, .ref q9, .ref q10, .ref q11, .int 0, .null])), (q1, .inl (g.2.1 1, 4, .inl (fun _ => 0))), (q2, .inl (g.2.1 1, 4, .inl (fun _ => 0))), (q3, .inl (g.2.1 1, 4, .inl (fun _ => 0)))]) X hin hW 0 ciX10 13 rfl (by decide) m_314 rfl rfl rfl rfl rfl (Nat.le_of_ble_eq_true rfl) rfl dX10_init_87 (fun H locs hW => ?_)
  refine lv_aload_n (pc := 90) hx hb dX10_init_90 rfl (lv_at hl 0 rfl) ?_
  refine lv_bipush (v := (-2)) (pc := 91) hx hb dX10_init_91 (by decide) ?_
  refine r_put (ws' := [(h0, .inr (10, [.int 0, .int 0, .int 0, .ref q1, .ref q2, .ref q3, .ref q4, .ref q5, .ref q6, .ref q7, .ref q8, .ref q9, .ref q10, .ref q11, .int (-2), .null])), (q1, .inl (g.2.1 1, 4, .inl (fun _ => 0))), (q2, .inl (g.2.1 1, 4, .inl (fun _ => 0))), (q3, .inl (g.2.1 1, 4, .inl (fun _ => 0)))]) X hW 0 ciX10 14 rfl (by decide) m_315 rfl rfl rfl rfl (Nat.le_of_ble_eq_true rfl) rfl dX10_init_93 (fun H locs hW => ?_)
  refine lv_aload_n (pc := 96) hx hb dX10_init_96 rfl (lv_at hl 0 rfl) ?_
  refine lv_bipush (v := 7) (pc := 97) hx hb dX10_init_97 (by decide) ?_
  refine r_newa (a0 := (7, .inl (fun _ => 0))) X hW .int rfl m_47 1 rfl (by intro C h; cases h) (fun _ => rfl) (by decide) (by decide) (Nat.le_of_ble_eq_true rfl) ⟨Nat.le_of_ble_eq_true rfl, Nat.le_of_ble_eq_true rfl⟩ dX10_init_99 (fun q12 H hW => ?_)
  have hW : WD g A s _ _ [(h0, .inr (10, [.int 0, .int 0, .int 0, .ref q1, .ref q2, .ref q3, .ref q4, .ref q5, .ref q6, .ref q7, .ref q8, .ref q9, .ref q10, .ref q11, .int (-2), .null])), (q1, .inl (g.2.1 1, 4, .inl (fun _ => 0))), (q2, .inl (g.2.1 1, 4, .inl (fun _ => 0))), (q3, .inl (g.2.1 1, 4, .inl (fun _ => 0)))] := hW.pick [0, 1, 2, 3] rfl rfl
  refine r_putF (ws' := [(h0, .inr (10, [.int 0, .int 0, .int 0, .ref q1, .ref q2, .ref q3, .ref q4, .ref q5, .ref q6, .ref q7, .ref q8, .ref q9, .ref q10, .ref q11, .int (-2), .ref q12])), (q1, .inl (g.2.1 1, 4, .inl (fun _ => 0))), (q2, .inl (g.2.1 1, 4, .inl (fun _ => 0))), (q3, .inl (g.2.1 1, 4, .inl (fun _ => 0)))]) X hin hW 0 ciX10 15 rfl (by decide) m_317 rfl rfl rfl rfl rfl (Nat.le_of_ble_eq_true rfl) rfl dX10_init_101 (fun H locs hW => ?_)
  exact e_v X hQ hr hW (u := [(h0, .inr (10, [.int 0, .int 0, .int 0, .ref q1, .ref q2, .ref q3, .ref q4, .ref q5, .ref q6, .ref q7, .ref q8, .ref q9, .ref q10, .ref q11, .int (-2), .ref q12])), (q1, .inl (g.2.1 1, 4, .inl (fun _ => 0))), (q2, .inl (g.2.1 1, 4, .inl (fun _ => 0))), (q3, .inl (g.2.1 1, 4, .inl (fun _ => 0)))]) [0, 1, 2, 3] rfl rfl (⟨q1, q2, q3, q4, q5, q6, q7, q8, q9, q10, q11, q12, rfl⟩) ⟨Nat.le_of_ble_eq_true rfl, Nat.le_of_ble_eq_true rfl⟩ dX10_init_104
end
section
/-- base 3: the places of Spreading's tables -/
def pw3 : Nat → Nat → Nat
  | 0, _ => 0
  | k + 1, j => j % 2 + 3 * pw3 k (j / 2)
theorem pw3_step : ∀ i, i < 128 → pw3 7 i = i % 2 + 3 * pw3 7 (i / 2) := by decide +kernel
theorem pw3_in : ∀ k, k < 128 → ∀ o, o < 128 → k &&& o = 0 → 2 * pw3 7 k + pw3 7 o < 2187 := by decide +kernel
theorem pw3_lt : ∀ k, k < 128 → pw3 7 k < 1100 := by decide +kernel
theorem ge_t {i k : Nat} (hi : i < 2 ^ 31) (hk : k < 2 ^ 31) (h : nI k ≤ nI i) : k ≤ i := (nI_leI hk hi).mp h
theorem ge_f {i k : Nat} (hi : i < 2 ^ 31) (hk : k < 2 ^ 31) (h : ¬ nI k ≤ nI i) : i < k := Nat.not_le.mp fun q => h ((nI_leI hk hi).mpr q)
theorem lt_t {i k : Nat} (hi : i < 2 ^ 31) (hk : k < 2 ^ 31) (h : nI i < nI k) : i < k := (nI_ltI hi hk).mp h
theorem lt_f {i k : Nat} (hi : i < 2 ^ 31) (hk : k < 2 ^ 31) (h : ¬ nI i < nI k) : k ≤ i := Nat.not_lt.mp fun q => h ((nI_ltI hi hk).mpr q)
theorem upd_at {f f' : Nat → Int32} {i : Nat} {x : Int32} (hi : i < 2 ^ 31) (e : upd f (nI i).toNatClampNeg x = f') (j : Nat) : f' j = if j = i then x else f j := by
  rw [nI_clamp hi] at e
  rw [← e]
  by_cases h : j = i
  · subst h; simp [upd]
  · simp [upd, h]
theorem updL_at {f f' : Nat → Int64} {i : Nat} {x : Int64} (hi : i < 2 ^ 31) (e : vp_updL f (nI i).toNatClampNeg x = f') (j : Nat) : f' j = if j = i then x else f j := by
  rw [nI_clamp hi] at e
  rw [← e]
  by_cases h : j = i
  · subst h; simp [vp_updL]
  · simp [vp_updL, h]
theorem m_112 : (Cond.code yX7_state prog_9_method_2_code 2 (Option.some FieldType.int)) ∈ BW := bw (tb1 112 (by decide +kernel)) (by decide +kernel)
theorem dX7_state_0 : decode cX7_state 0 = .ok (.iload_n 0, 1) := by decide +kernel
theorem dX7_state_1 : decode cX7_state 1 = .ok (.iload_n 1, 1) := by decide +kernel
theorem dX7_state_2 : decode cX7_state 2 = .ok (.bipush 7, 2) := by decide +kernel
theorem dX7_state_4 : decode cX7_state 4 = .ok (.ishl, 1) := by decide +kernel
theorem dX7_state_5 : decode cX7_state 5 = .ok (.ior, 1) := by decide +kernel
theorem dX7_state_6 : decode cX7_state 6 = .ok (.ireturn, 1) := by decide +kernel
theorem m_79 : (Cond.code yX7_init prog_9_method_1_code 3 (Option.none : Option Jvm.ClassFile.FieldType)) ∈ BW := bw (tb1 79 (by decide +kernel)) (by decide +kernel)
theorem dX7_init_0 : decode cX7_init 0 = .ok (.aload_n 0, 1) := by decide +kernel
theorem m_80 : (Cond.methodLink "NoonValley$Spreading" 3 objectInit) ∈ BW := bw (tb1 80 (by decide +kernel)) (by decide +kernel)
theorem dX7_init_1 : decode cX7_init 1 = .ok (.invokespecial 3, 3) := by decide +kernel
theorem dX7_init_4 : decode cX7_init 4 = .ok (.aload_n 0, 1) := by decide +kernel
theorem m_81 : (Cond.classLink "NoonValley$Spreading" 9 "NoonValley$Rows") ∈ BW := bw (tb1 81 (by decide +kernel)) (by decide +kernel)
theorem m_82 : (Cond.instantiable "NoonValley$Rows" 6) ∈ BW := bw (tb1 82 (by decide +kernel)) (by decide +kernel)
theorem m_5 : (Cond.initialized "NoonValley$Rows") ∈ BW := bw (tb1 5 (by decide +kernel)) (by decide +kernel)
theorem dX7_init_5 : decode cX7_init 5 = .ok (.new 9, 3) := by decide +kernel
theorem dX7_init_8 : decode cX7_init 8 = .ok (.dup, 1) := by decide +kernel
theorem m_83 : (Cond.methodLinkNest "NoonValley$Spreading" 11 yX5_init "NoonValley") ∈ NWS := nw (tb1 83 (by decide +kernel)) (by decide +kernel)
theorem m_84 : (Cond.instanceMethod yX5_init) ∈ BW := bw (tb1 84 (by decide +kernel)) (by decide +kernel)
theorem vX7_11 : LIN RX7 11 "NoonValley" yX5_init cX5_init 1 0 := ⟨m_83, m_84, m_5, m_85, rfl, by decide, by decide, by decide +kernel⟩
theorem dX7_init_9 : decode cX7_init 9 = .ok (.invokespecial 11, 3) := by decide +kernel
theorem m_133 : (Cond.laysFinal "NoonValley$Spreading" "NoonValley$Spreading" "rows" "LNoonValley$Rows;") ∈ BW := bw (tb1 133 (by decide +kernel)) (by decide +kernel)
theorem m_135 : (Cond.lays "NoonValley$Spreading" "NoonValley$Spreading" "people" "I") ∈ BW := bw (tb1 135 (by decide +kernel)) (by decide +kernel)
theorem m_137 : (Cond.lays "NoonValley$Spreading" "NoonValley$Spreading" "deaf" "I") ∈ BW := bw (tb1 137 (by decide +kernel)) (by decide +kernel)
theorem m_139 : (Cond.lays "NoonValley$Spreading" "NoonValley$Spreading" "takingPart" "I") ∈ BW := bw (tb1 139 (by decide +kernel)) (by decide +kernel)
theorem m_141 : (Cond.lays "NoonValley$Spreading" "NoonValley$Spreading" "must" "I") ∈ BW := bw (tb1 141 (by decide +kernel)) (by decide +kernel)
theorem m_143 : (Cond.laysFinal "NoonValley$Spreading" "NoonValley$Spreading" "callable" "[I") ∈ BW := bw (tb1 143 (by decide +kernel)) (by decide +kernel)
theorem m_145 : (Cond.laysFinal "NoonValley$Spreading" "NoonValley$Spreading" "powers" "[I") ∈ BW := bw (tb1 145 (by decide +kernel)) (by decide +kernel)
theorem m_147 : (Cond.laysFinal "NoonValley$Spreading" "NoonValley$Spreading" "stateAt" "[I") ∈ BW := bw (tb1 147 (by decide +kernel)) (by decide +kernel)
theorem m_149 : (Cond.laysFinal "NoonValley$Spreading" "NoonValley$Spreading" "comeTo" "[I") ∈ BW := bw (tb1 149 (by decide +kernel)) (by decide +kernel)
theorem m_151 : (Cond.laysFinal "NoonValley$Spreading" "NoonValley$Spreading" "good" "[I") ∈ BW := bw (tb1 151 (by decide +kernel)) (by decide +kernel)
theorem m_153 : (Cond.lays "NoonValley$Spreading" "NoonValley$Spreading" "now" "[I") ∈ BW := bw (tb1 153 (by decide +kernel)) (by decide +kernel)
theorem m_155 : (Cond.lays "NoonValley$Spreading" "NoonValley$Spreading" "next" "[I") ∈ BW := bw (tb1 155 (by decide +kernel)) (by decide +kernel)
theorem m_157 : (Cond.lays "NoonValley$Spreading" "NoonValley$Spreading" "nowCount" "I") ∈ BW := bw (tb1 157 (by decide +kernel)) (by decide +kernel)
theorem m_159 : (Cond.lays "NoonValley$Spreading" "NoonValley$Spreading" "nextCount" "I") ∈ BW := bw (tb1 159 (by decide +kernel)) (by decide +kernel)
theorem m_161 : (Cond.lays "NoonValley$Spreading" "NoonValley$Spreading" "addedA" "I") ∈ BW := bw (tb1 161 (by decide +kernel)) (by decide +kernel)
theorem m_163 : (Cond.lays "NoonValley$Spreading" "NoonValley$Spreading" "addedB" "I") ∈ BW := bw (tb1 163 (by decide +kernel)) (by decide +kernel)
theorem m_165 : (Cond.lays "NoonValley$Spreading" "NoonValley$Spreading" "spared" "I") ∈ BW := bw (tb1 165 (by decide +kernel)) (by decide +kernel)
theorem ciX7 : CI 7 RX7 TX7 17 tyX7 := ⟨rfl, fun w hw => by
  obtain ⟨k, hk, rfl⟩ := List.mem_map.mp hw
  have hk := List.mem_range.mp hk
  match k, hk with
  | 0, _ => exact m_133
  | 1, _ => exact m_135
  | 2, _ => exact m_137
  | 3, _ => exact m_139
  | 4, _ => exact m_141
  | 5, _ => exact m_143
  | 6, _ => exact m_145
  | 7, _ => exact m_147
  | 8, _ => exact m_149
  | 9, _ => exact m_151
  | 10, _ => exact m_153
  | 11, _ => exact m_155
  | 12, _ => exact m_157
  | 13, _ => exact m_159
  | 14, _ => exact m_161
  | 15, _ => exact m_163
  | 16, _ => exact m_165
  | k + 17, h => exact absurd h (by omega), tyX7_ok, nmX7⟩
theorem m_113 : (Cond.fieldLink "NoonValley$Spreading" 12 "NoonValley$Spreading" "rows" "LNoonValley$Rows;") ∈ BW := bw (tb1 113 (by decide +kernel)) (by decide +kernel)
theorem dX7_init_12 : decode cX7_init 12 = .ok (.putfield 12, 3) := by decide +kernel
theorem dX7_init_15 : decode cX7_init 15 = .ok (.aload_n 0, 1) := by decide +kernel
theorem dX7_init_16 : decode cX7_init 16 = .ok (.sipush 175, 3) := by decide +kernel
theorem dX7_init_19 : decode cX7_init 19 = .ok (.newarray .int, 2) := by decide +kernel
theorem m_118 : (Cond.fieldLink "NoonValley$Spreading" 18 "NoonValley$Spreading" "callable" "[I") ∈ BW := bw (tb1 118 (by decide +kernel)) (by decide +kernel)
theorem dX7_init_21 : decode cX7_init 21 = .ok (.putfield 18, 3) := by decide +kernel
theorem dX7_init_24 : decode cX7_init 24 = .ok (.aload_n 0, 1) := by decide +kernel
theorem dX7_init_25 : decode cX7_init 25 = .ok (.sipush 128, 3) := by decide +kernel
theorem dX7_init_28 : decode cX7_init 28 = .ok (.newarray .int, 2) := by decide +kernel
theorem m_119 : (Cond.fieldLink "NoonValley$Spreading" 22 "NoonValley$Spreading" "powers" "[I") ∈ BW := bw (tb1 119 (by decide +kernel)) (by decide +kernel)
theorem dX7_init_30 : decode cX7_init 30 = .ok (.putfield 22, 3) := by decide +kernel
theorem dX7_init_33 : decode cX7_init 33 = .ok (.aload_n 0, 1) := by decide +kernel
theorem dX7_init_34 : decode cX7_init 34 = .ok (.sipush 2187, 3) := by decide +kernel
theorem dX7_init_37 : decode cX7_init 37 = .ok (.newarray .int, 2) := by decide +kernel
theorem m_120 : (Cond.fieldLink "NoonValley$Spreading" 25 "NoonValley$Spreading" "stateAt" "[I") ∈ BW := bw (tb1 120 (by decide +kernel)) (by decide +kernel)
theorem dX7_init_39 : decode cX7_init 39 = .ok (.putfield 25, 3) := by decide +kernel
theorem dX7_init_42 : decode cX7_init 42 = .ok (.aload_n 0, 1) := by decide +kernel
theorem dX7_init_43 : decode cX7_init 43 = .ok (.sipush 2187, 3) := by decide +kernel
theorem dX7_init_46 : decode cX7_init 46 = .ok (.newarray .int, 2) := by decide +kernel
theorem m_121 : (Cond.fieldLink "NoonValley$Spreading" 28 "NoonValley$Spreading" "comeTo" "[I") ∈ BW := bw (tb1 121 (by decide +kernel)) (by decide +kernel)
theorem dX7_init_48 : decode cX7_init 48 = .ok (.putfield 28, 3) := by decide +kernel
theorem dX7_init_51 : decode cX7_init 51 = .ok (.aload_n 0, 1) := by decide +kernel
theorem dX7_init_52 : decode cX7_init 52 = .ok (.sipush 2187, 3) := by decide +kernel
theorem dX7_init_55 : decode cX7_init 55 = .ok (.newarray .int, 2) := by decide +kernel
theorem m_122 : (Cond.fieldLink "NoonValley$Spreading" 31 "NoonValley$Spreading" "good" "[I") ∈ BW := bw (tb1 122 (by decide +kernel)) (by decide +kernel)
theorem dX7_init_57 : decode cX7_init 57 = .ok (.putfield 31, 3) := by decide +kernel
theorem dX7_init_60 : decode cX7_init 60 = .ok (.aload_n 0, 1) := by decide +kernel
theorem dX7_init_61 : decode cX7_init 61 = .ok (.sipush 2187, 3) := by decide +kernel
theorem dX7_init_64 : decode cX7_init 64 = .ok (.newarray .int, 2) := by decide +kernel
theorem m_123 : (Cond.fieldLink "NoonValley$Spreading" 34 "NoonValley$Spreading" "now" "[I") ∈ BW := bw (tb1 123 (by decide +kernel)) (by decide +kernel)
theorem dX7_init_66 : decode cX7_init 66 = .ok (.putfield 34, 3) := by decide +kernel
theorem dX7_init_69 : decode cX7_init 69 = .ok (.aload_n 0, 1) := by decide +kernel
theorem dX7_init_70 : decode cX7_init 70 = .ok (.sipush 2187, 3) := by decide +kernel
theorem dX7_init_73 : decode cX7_init 73 = .ok (.newarray .int, 2) := by decide +kernel
theorem m_124 : (Cond.fieldLink "NoonValley$Spreading" 37 "NoonValley$Spreading" "next" "[I") ∈ BW := bw (tb1 124 (by decide +kernel)) (by decide +kernel)
theorem dX7_init_75 : decode cX7_init 75 = .ok (.putfield 37, 3) := by decide +kernel
theorem dX7_init_78 : decode cX7_init 78 = .ok (.iconst 1, 1) := by decide +kernel
theorem dX7_init_79 : decode cX7_init 79 = .ok (.istore_n 1, 1) := by decide +kernel
theorem dX7_init_80 : decode cX7_init 80 = .ok (.iload_n 1, 1) := by decide +kernel
theorem dX7_init_81 : decode cX7_init 81 = .ok (.sipush 128, 3) := by decide +kernel
theorem dX7_init_84 : decode cX7_init 84 = .ok (.if_icmp .ge 29, 3) := by decide +kernel
theorem dX7_init_113 : decode cX7_init 113 = .ok (.iconst 0, 1) := by decide +kernel
theorem dX7_init_114 : decode cX7_init 114 = .ok (.istore_n 1, 1) := by decide +kernel
theorem dX7_init_115 : decode cX7_init 115 = .ok (.iload_n 1, 1) := by decide +kernel
theorem dX7_init_116 : decode cX7_init 116 = .ok (.sipush 128, 3) := by decide +kernel
theorem dX7_init_119 : decode cX7_init 119 = .ok (.if_icmp .ge 55, 3) := by decide +kernel
theorem dX7_init_174 : decode cX7_init 174 = .ok (.return_, 1) := by decide +kernel
theorem dX7_init_122 : decode cX7_init 122 = .ok (.iconst 0, 1) := by decide +kernel
theorem dX7_init_123 : decode cX7_init 123 = .ok (.istore_n 2, 1) := by decide +kernel
theorem dX7_init_124 : decode cX7_init 124 = .ok (.iload_n 2, 1) := by decide +kernel
theorem dX7_init_125 : decode cX7_init 125 = .ok (.sipush 128, 3) := by decide +kernel
theorem dX7_init_128 : decode cX7_init 128 = .ok (.if_icmp .ge 40, 3) := by decide +kernel
theorem dX7_init_168 : decode cX7_init 168 = .ok (.iinc 1 1, 3) := by decide +kernel
theorem dX7_init_171 : decode cX7_init 171 = .ok (.goto (-56), 3) := by decide +kernel
theorem dX7_init_131 : decode cX7_init 131 = .ok (.iload_n 1, 1) := by decide +kernel
theorem dX7_init_132 : decode cX7_init 132 = .ok (.iload_n 2, 1) := by decide +kernel
theorem dX7_init_133 : decode cX7_init 133 = .ok (.iand, 1) := by decide +kernel
theorem dX7_init_134 : decode cX7_init 134 = .ok (.ifCond .ne 28, 3) := by decide +kernel
theorem dX7_init_162 : decode cX7_init 162 = .ok (.iinc 2 1, 3) := by decide +kernel
theorem dX7_init_165 : decode cX7_init 165 = .ok (.goto (-41), 3) := by decide +kernel
theorem dX7_init_137 : decode cX7_init 137 = .ok (.aload_n 0, 1) := by decide +kernel
theorem dX7_init_138 : decode cX7_init 138 = .ok (.getfield 25, 3) := by decide +kernel
theorem dX7_init_141 : decode cX7_init 141 = .ok (.iconst 2, 1) := by decide +kernel
theorem dX7_init_142 : decode cX7_init 142 = .ok (.aload_n 0, 1) := by decide +kernel
theorem dX7_init_143 : decode cX7_init 143 = .ok (.getfield 22, 3) := by decide +kernel
theorem dX7_init_146 : decode cX7_init 146 = .ok (.iload_n 1, 1) := by decide +kernel
theorem dX7_init_147 : decode cX7_init 147 = .ok (.iaload, 1) := by decide +kernel
theorem dX7_init_148 : decode cX7_init 148 = .ok (.imul, 1) := by decide +kernel
theorem dX7_init_149 : decode cX7_init 149 = .ok (.aload_n 0, 1) := by decide +kernel
theorem dX7_init_150 : decode cX7_init 150 = .ok (.getfield 22, 3) := by decide +kernel
theorem dX7_init_153 : decode cX7_init 153 = .ok (.iload_n 2, 1) := by decide +kernel
theorem dX7_init_154 : decode cX7_init 154 = .ok (.iaload, 1) := by decide +kernel
theorem dX7_init_155 : decode cX7_init 155 = .ok (.iadd, 1) := by decide +kernel
theorem dX7_init_156 : decode cX7_init 156 = .ok (.iload_n 1, 1) := by decide +kernel
theorem dX7_init_157 : decode cX7_init 157 = .ok (.iload_n 2, 1) := by decide +kernel
theorem m_110 : (Cond.methodLink "NoonValley$Spreading" 40 yX7_state) ∈ BW := bw (tb1 110 (by decide +kernel)) (by decide +kernel)
theorem m_4 : (Cond.initialized "NoonValley$Spreading") ∈ BW := bw (tb1 4 (by decide +kernel)) (by decide +kernel)
theorem m_111 : (Cond.static yX7_state) ∈ BW := bw (tb1 111 (by decide +kernel)) (by decide +kernel)
theorem vX7_40 : LST RX7 40 yX7_state cX7_state 2 (some .int) 2 := ⟨m_110, m_111, m_4, m_112, by decide, by decide, by decide +kernel⟩
theorem dX7_init_158 : decode cX7_init 158 = .ok (.invokestatic 40, 3) := by decide +kernel
theorem dX7_init_161 : decode cX7_init 161 = .ok (.iastore, 1) := by decide +kernel
theorem dX7_init_87 : decode cX7_init 87 = .ok (.aload_n 0, 1) := by decide +kernel
theorem dX7_init_88 : decode cX7_init 88 = .ok (.getfield 22, 3) := by decide +kernel
theorem dX7_init_91 : decode cX7_init 91 = .ok (.iload_n 1, 1) := by decide +kernel
theorem dX7_init_92 : decode cX7_init 92 = .ok (.iload_n 1, 1) := by decide +kernel
theorem dX7_init_93 : decode cX7_init 93 = .ok (.iconst 2, 1) := by decide +kernel
theorem dX7_init_94 : decode cX7_init 94 = .ok (.irem, 1) := by decide +kernel
theorem dX7_init_95 : decode cX7_init 95 = .ok (.iconst 3, 1) := by decide +kernel
theorem dX7_init_96 : decode cX7_init 96 = .ok (.aload_n 0, 1) := by decide +kernel
theorem dX7_init_97 : decode cX7_init 97 = .ok (.getfield 22, 3) := by decide +kernel
theorem dX7_init_100 : decode cX7_init 100 = .ok (.iload_n 1, 1) := by decide +kernel
theorem dX7_init_101 : decode cX7_init 101 = .ok (.iconst 2, 1) := by decide +kernel
theorem dX7_init_102 : decode cX7_init 102 = .ok (.idiv, 1) := by decide +kernel
theorem dX7_init_103 : decode cX7_init 103 = .ok (.iaload, 1) := by decide +kernel
theorem dX7_init_104 : decode cX7_init 104 = .ok (.imul, 1) := by decide +kernel
theorem dX7_init_105 : decode cX7_init 105 = .ok (.iadd, 1) := by decide +kernel
theorem dX7_init_106 : decode cX7_init 106 = .ok (.iastore, 1) := by decide +kernel
theorem dX7_init_107 : decode cX7_init 107 = .ok (.iinc 1 1, 3) := by decide +kernel
theorem dX7_init_110 : decode cX7_init 110 = .ok (.goto (-30), 3) := by decide +kernel
theorem m_26 : (Cond.code yX11_init prog_1_method_1_code 1 (Option.none : Option Jvm.ClassFile.FieldType)) ∈ BW := bw (tb1 26 (by decide +kernel)) (by decide +kernel)
theorem dX11_init_0 : decode cX11_init 0 = .ok (.aload_n 0, 1) := by decide +kernel
theorem m_27 : (Cond.methodLink "NoonValley" 1 objectInit) ∈ BW := bw (tb1 27 (by decide +kernel)) (by decide +kernel)
theorem dX11_init_1 : decode cX11_init 1 = .ok (.invokespecial 1, 3) := by decide +kernel
theorem dX11_init_4 : decode cX11_init 4 = .ok (.aload_n 0, 1) := by decide +kernel
theorem m_30 : (Cond.classLink "NoonValley" 7 "NoonValley$Tape") ∈ BW := bw (tb1 30 (by decide +kernel)) (by decide +kernel)
theorem m_31 : (Cond.instantiable "NoonValley$Tape" 3) ∈ BW := bw (tb1 31 (by decide +kernel)) (by decide +kernel)
theorem m_2 : (Cond.initialized "NoonValley$Tape") ∈ BW := bw (tb1 2 (by decide +kernel)) (by decide +kernel)
theorem dX11_init_5 : decode cX11_init 5 = .ok (.new 7, 3) := by decide +kernel
theorem dX11_init_8 : decode cX11_init 8 = .ok (.dup, 1) := by decide +kernel
theorem m_32 : (Cond.methodLinkNest "NoonValley" 9 yX8_init "NoonValley") ∈ NWS := nw (tb1 32 (by decide +kernel)) (by decide +kernel)
theorem m_33 : (Cond.instanceMethod yX8_init) ∈ BW := bw (tb1 33 (by decide +kernel)) (by decide +kernel)
theorem vX11_9 : LIN RX11 9 "NoonValley" yX8_init cX8_init 1 0 := ⟨m_32, m_33, m_2, m_34, rfl, by decide, by decide, by decide +kernel⟩
theorem dX11_init_9 : decode cX11_init 9 = .ok (.invokespecial 9, 3) := by decide +kernel
theorem m_367 : (Cond.laysFinal "NoonValley" "NoonValley" "tape" "LNoonValley$Tape;") ∈ BW := bw (tb2 127 (by decide +kernel)) (by decide +kernel)
theorem m_369 : (Cond.laysFinal "NoonValley" "NoonValley" "valleys" "[LNoonValley$Valley;") ∈ BW := bw (tb2 129 (by decide +kernel)) (by decide +kernel)
theorem m_371 : (Cond.laysFinal "NoonValley" "NoonValley" "plans" "[LNoonValley$Plan;") ∈ BW := bw (tb2 131 (by decide +kernel)) (by decide +kernel)
theorem m_373 : (Cond.laysFinal "NoonValley" "NoonValley" "carrying" "LNoonValley$Carrying;") ∈ BW := bw (tb2 133 (by decide +kernel)) (by decide +kernel)
theorem m_375 : (Cond.laysFinal "NoonValley" "NoonValley" "spreading" "LNoonValley$Spreading;") ∈ BW := bw (tb2 135 (by decide +kernel)) (by decide +kernel)
theorem m_377 : (Cond.laysFinal "NoonValley" "NoonValley" "shutting" "LNoonValley$Shutting;") ∈ BW := bw (tb2 137 (by decide +kernel)) (by decide +kernel)
theorem m_379 : (Cond.laysFinal "NoonValley" "NoonValley" "gossip" "LNoonValley$Gossip;") ∈ BW := bw (tb2 139 (by decide +kernel)) (by decide +kernel)
theorem m_381 : (Cond.laysFinal "NoonValley" "NoonValley" "trade" "LNoonValley$Trade;") ∈ BW := bw (tb2 141 (by decide +kernel)) (by decide +kernel)
theorem m_383 : (Cond.laysFinal "NoonValley" "NoonValley" "cards" "LNoonValley$Cards;") ∈ BW := bw (tb2 143 (by decide +kernel)) (by decide +kernel)
theorem m_385 : (Cond.laysFinal "NoonValley" "NoonValley" "chance" "LNoonValley$Chance;") ∈ BW := bw (tb2 145 (by decide +kernel)) (by decide +kernel)
theorem m_387 : (Cond.lays "NoonValley" "NoonValley" "spare" "LNoonValley$Valley;") ∈ BW := bw (tb2 147 (by decide +kernel)) (by decide +kernel)
theorem m_389 : (Cond.lays "NoonValley" "NoonValley" "valleyCount" "I") ∈ BW := bw (tb2 149 (by decide +kernel)) (by decide +kernel)
theorem m_391 : (Cond.lays "NoonValley" "NoonValley" "planCount" "I") ∈ BW := bw (tb2 151 (by decide +kernel)) (by decide +kernel)
theorem m_393 : (Cond.lays "NoonValley" "NoonValley" "callCount" "I") ∈ BW := bw (tb2 153 (by decide +kernel)) (by decide +kernel)
theorem ciX11 : CI 11 RX11 TX11 14 tyX11 := ⟨rfl, fun w hw => by
  obtain ⟨k, hk, rfl⟩ := List.mem_map.mp hw
  have hk := List.mem_range.mp hk
  match k, hk with
  | 0, _ => exact m_367
  | 1, _ => exact m_369
  | 2, _ => exact m_371
  | 3, _ => exact m_373
  | 4, _ => exact m_375
  | 5, _ => exact m_377
  | 6, _ => exact m_379
  | 7, _ => exact m_381
  | 8, _ => exact m_383
  | 9, _ => exact m_385
  | 10, _ => exact m_387
  | 11, _ => exact m_389
  | 12, _ => exact m_391
  | 13, _ => exact m_393
  | k + 14, h => exact absurd h (by omega), tyX11_ok, nmX11⟩
theorem m_353 : (Cond.fieldLink "NoonValley" 10 "NoonValley" "tape" "LNoonValley$Tape;") ∈ BW := bw (tb2 113 (by decide +kernel)) (by decide +kernel)
theorem dX11_init_12 : decode cX11_init 12 = .ok (.putfield 10, 3) := by decide +kernel
theorem dX11_init_15 : decode cX11_init 15 = .ok (.aload_n 0, 1) := by decide +kernel
theorem dX11_init_16 : decode cX11_init 16 = .ok (.bipush 10, 2) := by decide +kernel
theorem m_48 : (Cond.classLink "NoonValley" 16 "NoonValley$Valley") ∈ BW := bw (tb1 48 (by decide +kernel)) (by decide +kernel)
theorem dX11_init_18 : decode cX11_init 18 = .ok (.anewarray 16, 3) := by decide +kernel
theorem m_354 : (Cond.fieldLink "NoonValley" 18 "NoonValley" "valleys" "[LNoonValley$Valley;") ∈ BW := bw (tb2 114 (by decide +kernel)) (by decide +kernel)
theorem dX11_init_21 : decode cX11_init 21 = .ok (.putfield 18, 3) := by decide +kernel
theorem dX11_init_24 : decode cX11_init 24 = .ok (.aload_n 0, 1) := by decide +kernel
theorem dX11_init_25 : decode cX11_init 25 = .ok (.bipush 12, 2) := by decide +kernel
theorem m_50 : (Cond.classLink "NoonValley" 22 "NoonValley$Plan") ∈ BW := bw (tb1 50 (by decide +kernel)) (by decide +kernel)
theorem dX11_init_27 : decode cX11_init 27 = .ok (.anewarray 22, 3) := by decide +kernel
theorem m_355 : (Cond.fieldLink "NoonValley" 24 "NoonValley" "plans" "[LNoonValley$Plan;") ∈ BW := bw (tb2 115 (by decide +kernel)) (by decide +kernel)
theorem dX11_init_30 : decode cX11_init 30 = .ok (.putfield 24, 3) := by decide +kernel
theorem dX11_init_33 : decode cX11_init 33 = .ok (.aload_n 0, 1) := by decide +kernel
theorem m_52 : (Cond.classLink "NoonValley" 28 "NoonValley$Carrying") ∈ BW := bw (tb1 52 (by decide +kernel)) (by decide +kernel)
theorem m_53 : (Cond.instantiable "NoonValley$Carrying" 5) ∈ BW := bw (tb1 53 (by decide +kernel)) (by decide +kernel)
theorem m_3 : (Cond.initialized "NoonValley$Carrying") ∈ BW := bw (tb1 3 (by decide +kernel)) (by decide +kernel)
theorem dX11_init_34 : decode cX11_init 34 = .ok (.new 28, 3) := by decide +kernel
theorem dX11_init_37 : decode cX11_init 37 = .ok (.dup, 1) := by decide +kernel
theorem m_54 : (Cond.methodLinkNest "NoonValley" 30 yX1_init "NoonValley") ∈ NWS := nw (tb1 54 (by decide +kernel)) (by decide +kernel)
theorem m_55 : (Cond.instanceMethod yX1_init) ∈ BW := bw (tb1 55 (by decide +kernel)) (by decide +kernel)
theorem vX11_30 : LIN RX11 30 "NoonValley" yX1_init cX1_init 1 0 := ⟨m_54, m_55, m_3, m_56, rfl, by decide, by decide, by decide +kernel⟩
theorem dX11_init_38 : decode cX11_init 38 = .ok (.invokespecial 30, 3) := by decide +kernel
theorem m_356 : (Cond.fieldLink "NoonValley" 31 "NoonValley" "carrying" "LNoonValley$Carrying;") ∈ BW := bw (tb2 116 (by decide +kernel)) (by decide +kernel)
theorem dX11_init_41 : decode cX11_init 41 = .ok (.putfield 31, 3) := by decide +kernel
theorem dX11_init_44 : decode cX11_init 44 = .ok (.aload_n 0, 1) := by decide +kernel
theorem m_75 : (Cond.classLink "NoonValley" 35 "NoonValley$Spreading") ∈ BW := bw (tb1 75 (by decide +kernel)) (by decide +kernel)
theorem m_76 : (Cond.instantiable "NoonValley$Spreading" 17) ∈ BW := bw (tb1 76 (by decide +kernel)) (by decide +kernel)
theorem dX11_init_45 : decode cX11_init 45 = .ok (.new 35, 3) := by decide +kernel
theorem dX11_init_48 : decode cX11_init 48 = .ok (.dup, 1) := by decide +kernel
theorem m_77 : (Cond.methodLink "NoonValley" 37 yX7_init) ∈ BW := bw (tb1 77 (by decide +kernel)) (by decide +kernel)
theorem m_78 : (Cond.instanceMethod yX7_init) ∈ BW := bw (tb1 78 (by decide +kernel)) (by decide +kernel)
theorem vX11_37 : LI RX11 37 yX7_init cX7_init 3 0 := ⟨m_77, m_78, m_4, m_79, rfl, by decide, by decide, by decide +kernel⟩
theorem dX11_init_49 : decode cX11_init 49 = .ok (.invokespecial 37, 3) := by decide +kernel
theorem m_357 : (Cond.fieldLink "NoonValley" 38 "NoonValley" "spreading" "LNoonValley$Spreading;") ∈ BW := bw (tb2 117 (by decide +kernel)) (by decide +kernel)
theorem dX11_init_52 : decode cX11_init 52 = .ok (.putfield 38, 3) := by decide +kernel
theorem dX11_init_55 : decode cX11_init 55 = .ok (.aload_n 0, 1) := by decide +kernel
theorem m_179 : (Cond.lays "NoonValley$Shutting" "NoonValley$Shutting" "valley" "LNoonValley$Valley;") ∈ BW := bw (tb1 179 (by decide +kernel)) (by decide +kernel)
theorem m_181 : (Cond.lays "NoonValley$Shutting" "NoonValley$Shutting" "goal" "I") ∈ BW := bw (tb1 181 (by decide +kernel)) (by decide +kernel)
theorem m_183 : (Cond.lays "NoonValley$Shutting" "NoonValley$Shutting" "hour" "I") ∈ BW := bw (tb1 183 (by decide +kernel)) (by decide +kernel)
theorem m_185 : (Cond.lays "NoonValley$Shutting" "NoonValley$Shutting" "before" "I") ∈ BW := bw (tb1 185 (by decide +kernel)) (by decide +kernel)
theorem m_187 : (Cond.lays "NoonValley$Shutting" "NoonValley$Shutting" "used" "I") ∈ BW := bw (tb1 187 (by decide +kernel)) (by decide +kernel)
theorem ciX6 : CI 6 RX6 TX6 5 tyX6 := ⟨rfl, fun w hw => by
  obtain ⟨k, hk, rfl⟩ := List.mem_map.mp hw
  have hk := List.mem_range.mp hk
  match k, hk with
  | 0, _ => exact m_179
  | 1, _ => exact m_181
  | 2, _ => exact m_183
  | 3, _ => exact m_185
  | 4, _ => exact m_187
  | k + 5, h => exact absurd h (by omega), tyX6_ok, nmX6⟩
theorem m_168 : (Cond.classLink "NoonValley" 42 "NoonValley$Shutting") ∈ BW := bw (tb1 168 (by decide +kernel)) (by decide +kernel)
theorem m_169 : (Cond.instantiable "NoonValley$Shutting" 5) ∈ BW := bw (tb1 169 (by decide +kernel)) (by decide +kernel)
theorem m_6 : (Cond.initialized "NoonValley$Shutting") ∈ BW := bw (tb1 6 (by decide +kernel)) (by decide +kernel)
theorem dX11_init_56 : decode cX11_init 56 = .ok (.new 42, 3) := by decide +kernel
theorem dX11_init_59 : decode cX11_init 59 = .ok (.dup, 1) := by decide +kernel
theorem m_170 : (Cond.methodLinkNest "NoonValley" 44 yX6_init "NoonValley") ∈ NWS := nw (tb1 170 (by decide +kernel)) (by decide +kernel)
theorem m_171 : (Cond.instanceMethod yX6_init) ∈ BW := bw (tb1 171 (by decide +kernel)) (by decide +kernel)
theorem vX11_44 : LIN RX11 44 "NoonValley" yX6_init cX6_init 1 0 := ⟨m_170, m_171, m_6, m_172, rfl, by decide, by decide, by decide +kernel⟩
theorem dX11_init_60 : decode cX11_init 60 = .ok (.invokespecial 44, 3) := by decide +kernel
theorem m_358 : (Cond.fieldLink "NoonValley" 45 "NoonValley" "shutting" "LNoonValley$Shutting;") ∈ BW := bw (tb2 118 (by decide +kernel)) (by decide +kernel)
theorem dX11_init_63 : decode cX11_init 63 = .ok (.putfield 45, 3) := by decide +kernel
theorem dX11_init_66 : decode cX11_init 66 = .ok (.aload_n 0, 1) := by decide +kernel
theorem m_190 : (Cond.classLink "NoonValley" 49 "NoonValley$Gossip") ∈ BW := bw (tb1 190 (by decide +kernel)) (by decide +kernel)
theorem m_191 : (Cond.instantiable "NoonValley$Gossip" 3) ∈ BW := bw (tb1 191 (by decide +kernel)) (by decide +kernel)
theorem m_7 : (Cond.initialized "NoonValley$Gossip") ∈ BW := bw (tb1 7 (by decide +kernel)) (by decide +kernel)
theorem dX11_init_67 : decode cX11_init 67 = .ok (.new 49, 3) := by decide +kernel
theorem dX11_init_70 : decode cX11_init 70 = .ok (.dup, 1) := by decide +kernel
theorem m_192 : (Cond.methodLinkNest "NoonValley" 51 yX3_init "NoonValley") ∈ NWS := nw (tb1 192 (by decide +kernel)) (by decide +kernel)
theorem m_193 : (Cond.instanceMethod yX3_init) ∈ BW := bw (tb1 193 (by decide +kernel)) (by decide +kernel)
theorem vX11_51 : LIN RX11 51 "NoonValley" yX3_init cX3_init 1 0 := ⟨m_192, m_193, m_7, m_194, rfl, by decide, by decide, by decide +kernel⟩
theorem dX11_init_71 : decode cX11_init 71 = .ok (.invokespecial 51, 3) := by decide +kernel
theorem m_359 : (Cond.fieldLink "NoonValley" 52 "NoonValley" "gossip" "LNoonValley$Gossip;") ∈ BW := bw (tb2 119 (by decide +kernel)) (by decide +kernel)
theorem dX11_init_74 : decode cX11_init 74 = .ok (.putfield 52, 3) := by decide +kernel
theorem dX11_init_77 : decode cX11_init 77 = .ok (.aload_n 0, 1) := by decide +kernel
theorem m_206 : (Cond.classLink "NoonValley" 56 "NoonValley$Trade") ∈ BW := bw (tb1 206 (by decide +kernel)) (by decide +kernel)
theorem m_207 : (Cond.instantiable "NoonValley$Trade" 3) ∈ BW := bw (tb1 207 (by decide +kernel)) (by decide +kernel)
theorem m_8 : (Cond.initialized "NoonValley$Trade") ∈ BW := bw (tb1 8 (by decide +kernel)) (by decide +kernel)
theorem dX11_init_78 : decode cX11_init 78 = .ok (.new 56, 3) := by decide +kernel
theorem dX11_init_81 : decode cX11_init 81 = .ok (.dup, 1) := by decide +kernel
theorem m_208 : (Cond.methodLinkNest "NoonValley" 58 yX9_init "NoonValley") ∈ NWS := nw (tb1 208 (by decide +kernel)) (by decide +kernel)
theorem m_209 : (Cond.instanceMethod yX9_init) ∈ BW := bw (tb1 209 (by decide +kernel)) (by decide +kernel)
theorem vX11_58 : LIN RX11 58 "NoonValley" yX9_init cX9_init 1 0 := ⟨m_208, m_209, m_8, m_210, rfl, by decide, by decide, by decide +kernel⟩
theorem dX11_init_82 : decode cX11_init 82 = .ok (.invokespecial 58, 3) := by decide +kernel
theorem m_360 : (Cond.fieldLink "NoonValley" 59 "NoonValley" "trade" "LNoonValley$Trade;") ∈ BW := bw (tb2 120 (by decide +kernel)) (by decide +kernel)
theorem dX11_init_85 : decode cX11_init 85 = .ok (.putfield 59, 3) := by decide +kernel
theorem dX11_init_88 : decode cX11_init 88 = .ok (.aload_n 0, 1) := by decide +kernel
theorem m_224 : (Cond.classLink "NoonValley" 63 "NoonValley$Cards") ∈ BW := bw (tb1 224 (by decide +kernel)) (by decide +kernel)
theorem m_225 : (Cond.instantiable "NoonValley$Cards" 7) ∈ BW := bw (tb1 225 (by decide +kernel)) (by decide +kernel)
theorem m_9 : (Cond.initialized "NoonValley$Cards") ∈ BW := bw (tb1 9 (by decide +kernel)) (by decide +kernel)
theorem dX11_init_89 : decode cX11_init 89 = .ok (.new 63, 3) := by decide +kernel
theorem dX11_init_92 : decode cX11_init 92 = .ok (.dup, 1) := by decide +kernel
theorem m_226 : (Cond.methodLinkNest "NoonValley" 65 yX0_init "NoonValley") ∈ NWS := nw (tb1 226 (by decide +kernel)) (by decide +kernel)
theorem m_227 : (Cond.instanceMethod yX0_init) ∈ BW := bw (tb1 227 (by decide +kernel)) (by decide +kernel)
theorem vX11_65 : LIN RX11 65 "NoonValley" yX0_init cX0_init 1 0 := ⟨m_226, m_227, m_9, m_228, rfl, by decide, by decide, by decide +kernel⟩
theorem dX11_init_93 : decode cX11_init 93 = .ok (.invokespecial 65, 3) := by decide +kernel
theorem m_361 : (Cond.fieldLink "NoonValley" 66 "NoonValley" "cards" "LNoonValley$Cards;") ∈ BW := bw (tb2 121 (by decide +kernel)) (by decide +kernel)
theorem dX11_init_96 : decode cX11_init 96 = .ok (.putfield 66, 3) := by decide +kernel
theorem dX11_init_99 : decode cX11_init 99 = .ok (.aload_n 0, 1) := by decide +kernel
theorem m_253 : (Cond.classLink "NoonValley" 70 "NoonValley$Chance") ∈ BW := bw (tb2 13 (by decide +kernel)) (by decide +kernel)
theorem m_254 : (Cond.instantiable "NoonValley$Chance" 2) ∈ BW := bw (tb2 14 (by decide +kernel)) (by decide +kernel)
theorem m_10 : (Cond.initialized "NoonValley$Chance") ∈ BW := bw (tb1 10 (by decide +kernel)) (by decide +kernel)
theorem dX11_init_100 : decode cX11_init 100 = .ok (.new 70, 3) := by decide +kernel
theorem dX11_init_103 : decode cX11_init 103 = .ok (.dup, 1) := by decide +kernel
theorem m_255 : (Cond.methodLinkNest "NoonValley" 72 yX2_init "NoonValley") ∈ NWS := nw (tb2 15 (by decide +kernel)) (by decide +kernel)
theorem m_256 : (Cond.instanceMethod yX2_init) ∈ BW := bw (tb2 16 (by decide +kernel)) (by decide +kernel)
theorem vX11_72 : LIN RX11 72 "NoonValley" yX2_init cX2_init 1 0 := ⟨m_255, m_256, m_10, m_257, rfl, by decide, by decide, by decide +kernel⟩
theorem dX11_init_104 : decode cX11_init 104 = .ok (.invokespecial 72, 3) := by decide +kernel
theorem m_362 : (Cond.fieldLink "NoonValley" 73 "NoonValley" "chance" "LNoonValley$Chance;") ∈ BW := bw (tb2 122 (by decide +kernel)) (by decide +kernel)
theorem dX11_init_107 : decode cX11_init 107 = .ok (.putfield 73, 3) := by decide +kernel
theorem dX11_init_110 : decode cX11_init 110 = .ok (.aload_n 0, 1) := by decide +kernel
theorem m_267 : (Cond.instantiable "NoonValley$Valley" 16) ∈ BW := bw (tb2 27 (by decide +kernel)) (by decide +kernel)
theorem m_11 : (Cond.initialized "NoonValley$Valley") ∈ BW := bw (tb1 11 (by decide +kernel)) (by decide +kernel)
theorem dX11_init_111 : decode cX11_init 111 = .ok (.new 16, 3) := by decide +kernel
theorem dX11_init_114 : decode cX11_init 114 = .ok (.dup, 1) := by decide +kernel
theorem m_268 : (Cond.methodLinkNest "NoonValley" 77 yX10_init "NoonValley") ∈ NWS := nw (tb2 28 (by decide +kernel)) (by decide +kernel)
theorem m_269 : (Cond.instanceMethod yX10_init) ∈ BW := bw (tb2 29 (by decide +kernel)) (by decide +kernel)
theorem vX11_77 : LIN RX11 77 "NoonValley" yX10_init cX10_init 1 0 := ⟨m_268, m_269, m_11, m_270, rfl, by decide, by decide, by decide +kernel⟩
theorem dX11_init_115 : decode cX11_init 115 = .ok (.invokespecial 77, 3) := by decide +kernel
theorem m_363 : (Cond.fieldLink "NoonValley" 78 "NoonValley" "spare" "LNoonValley$Valley;") ∈ BW := bw (tb2 123 (by decide +kernel)) (by decide +kernel)
theorem dX11_init_118 : decode cX11_init 118 = .ok (.putfield 78, 3) := by decide +kernel
theorem dX11_init_121 : decode cX11_init 121 = .ok (.return_, 1) := by decide +kernel
theorem m_1227 : (Cond.code yX12_init prog_14_method_1_code 1 (Option.none : Option Jvm.ClassFile.FieldType)) ∈ BW := bw (tb6 27 (by decide +kernel)) (by decide +kernel)
theorem dX12_init_0 : decode cX12_init 0 = .ok (.aload_n 0, 1) := by decide +kernel
theorem m_1228 : (Cond.methodLink "NoonValleyModel" 3 objectInit) ∈ BW := bw (tb6 28 (by decide +kernel)) (by decide +kernel)
theorem dX12_init_1 : decode cX12_init 1 = .ok (.invokespecial 3, 3) := by decide +kernel
theorem dX12_init_4 : decode cX12_init 4 = .ok (.aload_n 0, 1) := by decide +kernel
theorem dX12_init_5 : decode cX12_init 5 = .ok (.sipush 400, 3) := by decide +kernel
theorem m_1420 : (Cond.arrayClass FieldType.byte) ∈ BW := bw (tb6 220 (by decide +kernel)) (by decide +kernel)
theorem dX12_init_8 : decode cX12_init 8 = .ok (.newarray .byte, 2) := by decide +kernel
theorem m_1291 : (Cond.lays "NoonValleyModel" "NoonValleyModel" "thrown" "I") ∈ BW := bw (tb6 91 (by decide +kernel)) (by decide +kernel)
theorem m_1293 : (Cond.laysFinal "NoonValleyModel" "NoonValleyModel" "tape" "[B") ∈ BW := bw (tb6 93 (by decide +kernel)) (by decide +kernel)
theorem m_1295 : (Cond.lays "NoonValleyModel" "NoonValleyModel" "length" "I") ∈ BW := bw (tb6 95 (by decide +kernel)) (by decide +kernel)
theorem m_1297 : (Cond.lays "NoonValleyModel" "NoonValleyModel" "at" "I") ∈ BW := bw (tb6 97 (by decide +kernel)) (by decide +kernel)
theorem m_1299 : (Cond.lays "NoonValleyModel" "NoonValleyModel" "fault" "I") ∈ BW := bw (tb6 99 (by decide +kernel)) (by decide +kernel)
theorem m_1301 : (Cond.lays "NoonValleyModel" "NoonValleyModel" "number" "I") ∈ BW := bw (tb6 101 (by decide +kernel)) (by decide +kernel)
theorem m_1303 : (Cond.laysFinal "NoonValleyModel" "NoonValleyModel" "people" "[I") ∈ BW := bw (tb6 103 (by decide +kernel)) (by decide +kernel)
theorem m_1305 : (Cond.laysFinal "NoonValleyModel" "NoonValleyModel" "lines" "[I") ∈ BW := bw (tb6 105 (by decide +kernel)) (by decide +kernel)
theorem m_1307 : (Cond.laysFinal "NoonValleyModel" "NoonValleyModel" "deaf" "[I") ∈ BW := bw (tb6 107 (by decide +kernel)) (by decide +kernel)
theorem m_1309 : (Cond.laysFinal "NoonValleyModel" "NoonValleyModel" "knows" "[I") ∈ BW := bw (tb6 109 (by decide +kernel)) (by decide +kernel)
theorem m_1311 : (Cond.laysFinal "NoonValleyModel" "NoonValleyModel" "musts" "[I") ∈ BW := bw (tb6 111 (by decide +kernel)) (by decide +kernel)
theorem m_1313 : (Cond.laysFinal "NoonValleyModel" "NoonValleyModel" "mustNots" "[I") ∈ BW := bw (tb6 113 (by decide +kernel)) (by decide +kernel)
theorem m_1315 : (Cond.laysFinal "NoonValleyModel" "NoonValleyModel" "lineA" "[I") ∈ BW := bw (tb6 115 (by decide +kernel)) (by decide +kernel)
theorem m_1317 : (Cond.laysFinal "NoonValleyModel" "NoonValleyModel" "lineB" "[I") ∈ BW := bw (tb6 117 (by decide +kernel)) (by decide +kernel)
theorem m_1319 : (Cond.laysFinal "NoonValleyModel" "NoonValleyModel" "lineF" "[I") ∈ BW := bw (tb6 119 (by decide +kernel)) (by decide +kernel)
theorem m_1321 : (Cond.laysFinal "NoonValleyModel" "NoonValleyModel" "lineT" "[I") ∈ BW := bw (tb6 121 (by decide +kernel)) (by decide +kernel)
theorem m_1323 : (Cond.laysFinal "NoonValleyModel" "NoonValleyModel" "lineDown" "[I") ∈ BW := bw (tb6 123 (by decide +kernel)) (by decide +kernel)
theorem m_1325 : (Cond.laysFinal "NoonValleyModel" "NoonValleyModel" "isOne" "[Z") ∈ BW := bw (tb6 125 (by decide +kernel)) (by decide +kernel)
theorem m_1327 : (Cond.lays "NoonValleyModel" "NoonValleyModel" "valleys" "I") ∈ BW := bw (tb6 127 (by decide +kernel)) (by decide +kernel)
theorem m_1329 : (Cond.lays "NoonValleyModel" "NoonValleyModel" "moreA" "I") ∈ BW := bw (tb6 129 (by decide +kernel)) (by decide +kernel)
theorem m_1331 : (Cond.lays "NoonValleyModel" "NoonValleyModel" "moreB" "I") ∈ BW := bw (tb6 131 (by decide +kernel)) (by decide +kernel)
theorem m_1333 : (Cond.laysFinal "NoonValleyModel" "NoonValleyModel" "planOf" "[I") ∈ BW := bw (tb6 133 (by decide +kernel)) (by decide +kernel)
theorem m_1335 : (Cond.laysFinal "NoonValleyModel" "NoonValleyModel" "calls" "[I") ∈ BW := bw (tb6 135 (by decide +kernel)) (by decide +kernel)
theorem m_1337 : (Cond.laysFinal "NoonValleyModel" "NoonValleyModel" "callHour" "[I") ∈ BW := bw (tb6 137 (by decide +kernel)) (by decide +kernel)
theorem m_1339 : (Cond.laysFinal "NoonValleyModel" "NoonValleyModel" "callKind" "[I") ∈ BW := bw (tb6 139 (by decide +kernel)) (by decide +kernel)
theorem m_1341 : (Cond.laysFinal "NoonValleyModel" "NoonValleyModel" "callOne" "[I") ∈ BW := bw (tb6 141 (by decide +kernel)) (by decide +kernel)
theorem m_1343 : (Cond.laysFinal "NoonValleyModel" "NoonValleyModel" "callOther" "[I") ∈ BW := bw (tb6 143 (by decide +kernel)) (by decide +kernel)
theorem m_1345 : (Cond.lays "NoonValleyModel" "NoonValleyModel" "plans" "I") ∈ BW := bw (tb6 145 (by decide +kernel)) (by decide +kernel)
theorem m_1347 : (Cond.laysFinal "NoonValleyModel" "NoonValleyModel" "law" "[I") ∈ BW := bw (tb6 147 (by decide +kernel)) (by decide +kernel)
theorem m_1349 : (Cond.laysFinal "NoonValleyModel" "NoonValleyModel" "reached" "[I") ∈ BW := bw (tb6 149 (by decide +kernel)) (by decide +kernel)
theorem m_1351 : (Cond.laysFinal "NoonValleyModel" "NoonValleyModel" "after" "[I") ∈ BW := bw (tb6 151 (by decide +kernel)) (by decide +kernel)
theorem m_1353 : (Cond.laysFinal "NoonValleyModel" "NoonValleyModel" "once" "[I") ∈ BW := bw (tb6 153 (by decide +kernel)) (by decide +kernel)
theorem m_1355 : (Cond.laysFinal "NoonValleyModel" "NoonValleyModel" "fresh" "[I") ∈ BW := bw (tb6 155 (by decide +kernel)) (by decide +kernel)
theorem m_1357 : (Cond.laysFinal "NoonValleyModel" "NoonValleyModel" "twice" "[I") ∈ BW := bw (tb6 157 (by decide +kernel)) (by decide +kernel)
theorem m_1359 : (Cond.laysFinal "NoonValleyModel" "NoonValleyModel" "need" "[B") ∈ BW := bw (tb6 159 (by decide +kernel)) (by decide +kernel)
theorem m_1361 : (Cond.laysFinal "NoonValleyModel" "NoonValleyModel" "row" "[I") ∈ BW := bw (tb6 161 (by decide +kernel)) (by decide +kernel)
theorem m_1363 : (Cond.laysFinal "NoonValleyModel" "NoonValleyModel" "lowRow" "[I") ∈ BW := bw (tb6 163 (by decide +kernel)) (by decide +kernel)
theorem m_1365 : (Cond.lays "NoonValleyModel" "NoonValleyModel" "askValley" "I") ∈ BW := bw (tb6 165 (by decide +kernel)) (by decide +kernel)
theorem m_1367 : (Cond.lays "NoonValleyModel" "NoonValleyModel" "askMust" "I") ∈ BW := bw (tb6 167 (by decide +kernel)) (by decide +kernel)
theorem m_1369 : (Cond.lays "NoonValleyModel" "NoonValleyModel" "askNot" "I") ∈ BW := bw (tb6 169 (by decide +kernel)) (by decide +kernel)
theorem m_1371 : (Cond.lays "NoonValleyModel" "NoonValleyModel" "bestNeed" "I") ∈ BW := bw (tb6 171 (by decide +kernel)) (by decide +kernel)
theorem m_1373 : (Cond.lays "NoonValleyModel" "NoonValleyModel" "askHour" "I") ∈ BW := bw (tb6 173 (by decide +kernel)) (by decide +kernel)
theorem m_1375 : (Cond.lays "NoonValleyModel" "NoonValleyModel" "askWanted" "I") ∈ BW := bw (tb6 175 (by decide +kernel)) (by decide +kernel)
theorem m_1377 : (Cond.lays "NoonValleyModel" "NoonValleyModel" "findsRow" "Z") ∈ BW := bw (tb6 177 (by decide +kernel)) (by decide +kernel)
theorem m_1379 : (Cond.lays "NoonValleyModel" "NoonValleyModel" "nextKnow" "I") ∈ BW := bw (tb6 179 (by decide +kernel)) (by decide +kernel)
theorem m_1381 : (Cond.lays "NoonValleyModel" "NoonValleyModel" "nextOnce" "I") ∈ BW := bw (tb6 181 (by decide +kernel)) (by decide +kernel)
theorem m_1383 : (Cond.laysFinal "NoonValleyModel" "NoonValleyModel" "things" "[I") ∈ BW := bw (tb6 183 (by decide +kernel)) (by decide +kernel)
theorem m_1385 : (Cond.laysFinal "NoonValleyModel" "NoonValleyModel" "gossipRow" "[I") ∈ BW := bw (tb6 185 (by decide +kernel)) (by decide +kernel)
theorem m_1387 : (Cond.laysFinal "NoonValleyModel" "NoonValleyModel" "isLower" "[Z") ∈ BW := bw (tb6 187 (by decide +kernel)) (by decide +kernel)
theorem m_1389 : (Cond.laysFinal "NoonValleyModel" "NoonValleyModel" "cost" "[I") ∈ BW := bw (tb6 189 (by decide +kernel)) (by decide +kernel)
theorem m_1391 : (Cond.laysFinal "NoonValleyModel" "NoonValleyModel" "costNext" "[I") ∈ BW := bw (tb6 191 (by decide +kernel)) (by decide +kernel)
theorem m_1393 : (Cond.laysFinal "NoonValleyModel" "NoonValleyModel" "tradeCosts" "[I") ∈ BW := bw (tb6 193 (by decide +kernel)) (by decide +kernel)
theorem m_1395 : (Cond.laysFinal "NoonValleyModel" "NoonValleyModel" "cards" "[I") ∈ BW := bw (tb6 195 (by decide +kernel)) (by decide +kernel)
theorem m_1397 : (Cond.laysFinal "NoonValleyModel" "NoonValleyModel" "cardLong" "[I") ∈ BW := bw (tb6 197 (by decide +kernel)) (by decide +kernel)
theorem m_1399 : (Cond.laysFinal "NoonValleyModel" "NoonValleyModel" "gone" "[I") ∈ BW := bw (tb6 199 (by decide +kernel)) (by decide +kernel)
theorem m_1401 : (Cond.laysFinal "NoonValleyModel" "NoonValleyModel" "below" "[I") ∈ BW := bw (tb6 201 (by decide +kernel)) (by decide +kernel)
theorem m_1403 : (Cond.laysFinal "NoonValleyModel" "NoonValleyModel" "belowMany" "[I") ∈ BW := bw (tb6 203 (by decide +kernel)) (by decide +kernel)
theorem m_1405 : (Cond.laysFinal "NoonValleyModel" "NoonValleyModel" "time" "[I") ∈ BW := bw (tb6 205 (by decide +kernel)) (by decide +kernel)
theorem m_1407 : (Cond.laysFinal "NoonValleyModel" "NoonValleyModel" "broken" "[I") ∈ BW := bw (tb6 207 (by decide +kernel)) (by decide +kernel)
theorem m_1409 : (Cond.laysFinal "NoonValleyModel" "NoonValleyModel" "ways" "[J") ∈ BW := bw (tb6 209 (by decide +kernel)) (by decide +kernel)
theorem m_1411 : (Cond.laysFinal "NoonValleyModel" "NoonValleyModel" "waysNext" "[J") ∈ BW := bw (tb6 211 (by decide +kernel)) (by decide +kernel)
theorem m_1413 : (Cond.laysFinal "NoonValleyModel" "NoonValleyModel" "tales" "[I") ∈ BW := bw (tb6 213 (by decide +kernel)) (by decide +kernel)
theorem m_1415 : (Cond.laysFinal "NoonValleyModel" "NoonValleyModel" "can" "[Z") ∈ BW := bw (tb6 215 (by decide +kernel)) (by decide +kernel)
theorem m_1417 : (Cond.laysFinal "NoonValleyModel" "NoonValleyModel" "canNext" "[Z") ∈ BW := bw (tb6 217 (by decide +kernel)) (by decide +kernel)
theorem ciX12 : CI 12 RX12 TX12 64 tyX12 := ⟨rfl, fun w hw => by
  obtain ⟨k, hk, rfl⟩ := List.mem_map.mp hw
  have hk := List.mem_range.mp hk
  match k, hk with
  | 0, _ => exact m_1291
  | 1, _ => exact m_1293
  | 2, _ => exact m_1295
  | 3, _ => exact m_1297
  | 4, _ => exact m_1299
  | 5, _ => exact m_1301
  | 6, _ => exact m_1303
  | 7, _ => exact m_1305
  | 8, _ => exact m_1307
  | 9, _ => exact m_1309
  | 10, _ => exact m_1311
  | 11, _ => exact m_1313
  | 12, _ => exact m_1315
  | 13, _ => exact m_1317
  | 14, _ => exact m_1319
  | 15, _ => exact m_1321
  | 16, _ => exact m_1323
  | 17, _ => exact m_1325
  | 18, _ => exact m_1327
  | 19, _ => exact m_1329
  | 20, _ => exact m_1331
  | 21, _ => exact m_1333
  | 22, _ => exact m_1335
  | 23, _ => exact m_1337
  | 24, _ => exact m_1339
  | 25, _ => exact m_1341
  | 26, _ => exact m_1343
  | 27, _ => exact m_1345
  | 28, _ => exact m_1347
  | 29, _ => exact m_1349
  | 30, _ => exact m_1351
  | 31, _ => exact m_1353
  | 32, _ => exact m_1355
  | 33, _ => exact m_1357
  | 34, _ => exact m_1359
  | 35, _ => exact m_1361
  | 36, _ => exact m_1363
  | 37, _ => exact m_1365
  | 38, _ => exact m_1367
  | 39, _ => exact m_1369
  | 40, _ => exact m_1371
  | 41, _ => exact m_1373
  | 42, _ => exact m_1375
  | 43, _ => exact m_1377
  | 44, _ => exact m_1379
  | 45, _ => exact m_1381
  | 46, _ => exact m_1383
  | 47, _ => exact m_1385
  | 48, _ => exact m_1387
  | 49, _ => exact m_1389
  | 50, _ => exact m_1391
  | 51, _ => exact m_1393
  | 52, _ => exact m_1395
  | 53, _ => exact m_1397
  | 54, _ => exact m_1399
  | 55, _ => exact m_1401
  | 56, _ => exact m_1403
  | 57, _ => exact m_1405
  | 58, _ => exact m_1407
  | 59, _ => exact m_1409
  | 60, _ => exact m_1411
  | 61, _ => exact m_1413
  | 62, _ => exact m_1415
  | 63, _ => exact m_1417
  | k + 64, h => exact absurd h (by omega), tyX12_ok, nmX12⟩
theorem m_1232 : (Cond.fieldLink "NoonValleyModel" 9 "NoonValleyModel" "tape" "[B") ∈ BW := bw (tb6 32 (by decide +kernel)) (by decide +kernel)
theorem dX12_init_10 : decode cX12_init 10 = .ok (.putfield 9, 3) := by decide +kernel
theorem dX12_init_13 : decode cX12_init 13 = .ok (.aload_n 0, 1) := by decide +kernel
theorem dX12_init_14 : decode cX12_init 14 = .ok (.bipush 11, 2) := by decide +kernel
theorem dX12_init_16 : decode cX12_init 16 = .ok (.newarray .int, 2) := by decide +kernel
theorem m_1237 : (Cond.fieldLink "NoonValleyModel" 13 "NoonValleyModel" "people" "[I") ∈ BW := bw (tb6 37 (by decide +kernel)) (by decide +kernel)
theorem dX12_init_18 : decode cX12_init 18 = .ok (.putfield 13, 3) := by decide +kernel
theorem dX12_init_21 : decode cX12_init 21 = .ok (.aload_n 0, 1) := by decide +kernel
theorem dX12_init_22 : decode cX12_init 22 = .ok (.bipush 11, 2) := by decide +kernel
theorem dX12_init_24 : decode cX12_init 24 = .ok (.newarray .int, 2) := by decide +kernel
theorem m_1238 : (Cond.fieldLink "NoonValleyModel" 17 "NoonValleyModel" "lines" "[I") ∈ BW := bw (tb6 38 (by decide +kernel)) (by decide +kernel)
theorem dX12_init_26 : decode cX12_init 26 = .ok (.putfield 17, 3) := by decide +kernel
theorem dX12_init_29 : decode cX12_init 29 = .ok (.aload_n 0, 1) := by decide +kernel
theorem dX12_init_30 : decode cX12_init 30 = .ok (.bipush 11, 2) := by decide +kernel
theorem dX12_init_32 : decode cX12_init 32 = .ok (.newarray .int, 2) := by decide +kernel
theorem m_1239 : (Cond.fieldLink "NoonValleyModel" 20 "NoonValleyModel" "deaf" "[I") ∈ BW := bw (tb6 39 (by decide +kernel)) (by decide +kernel)
theorem dX12_init_34 : decode cX12_init 34 = .ok (.putfield 20, 3) := by decide +kernel
theorem dX12_init_37 : decode cX12_init 37 = .ok (.aload_n 0, 1) := by decide +kernel
theorem dX12_init_38 : decode cX12_init 38 = .ok (.bipush 44, 2) := by decide +kernel
theorem dX12_init_40 : decode cX12_init 40 = .ok (.newarray .int, 2) := by decide +kernel
theorem m_1240 : (Cond.fieldLink "NoonValleyModel" 23 "NoonValleyModel" "knows" "[I") ∈ BW := bw (tb6 40 (by decide +kernel)) (by decide +kernel)
theorem dX12_init_42 : decode cX12_init 42 = .ok (.putfield 23, 3) := by decide +kernel
theorem dX12_init_45 : decode cX12_init 45 = .ok (.aload_n 0, 1) := by decide +kernel
theorem dX12_init_46 : decode cX12_init 46 = .ok (.bipush 44, 2) := by decide +kernel
theorem dX12_init_48 : decode cX12_init 48 = .ok (.newarray .int, 2) := by decide +kernel
theorem m_1241 : (Cond.fieldLink "NoonValleyModel" 26 "NoonValleyModel" "musts" "[I") ∈ BW := bw (tb6 41 (by decide +kernel)) (by decide +kernel)
theorem dX12_init_50 : decode cX12_init 50 = .ok (.putfield 26, 3) := by decide +kernel
theorem dX12_init_53 : decode cX12_init 53 = .ok (.aload_n 0, 1) := by decide +kernel
theorem dX12_init_54 : decode cX12_init 54 = .ok (.bipush 44, 2) := by decide +kernel
theorem dX12_init_56 : decode cX12_init 56 = .ok (.newarray .int, 2) := by decide +kernel
theorem m_1242 : (Cond.fieldLink "NoonValleyModel" 29 "NoonValleyModel" "mustNots" "[I") ∈ BW := bw (tb6 42 (by decide +kernel)) (by decide +kernel)
theorem dX12_init_58 : decode cX12_init 58 = .ok (.putfield 29, 3) := by decide +kernel
theorem dX12_init_61 : decode cX12_init 61 = .ok (.aload_n 0, 1) := by decide +kernel
theorem dX12_init_62 : decode cX12_init 62 = .ok (.sipush 132, 3) := by decide +kernel
theorem dX12_init_65 : decode cX12_init 65 = .ok (.newarray .int, 2) := by decide +kernel
theorem m_1243 : (Cond.fieldLink "NoonValleyModel" 32 "NoonValleyModel" "lineA" "[I") ∈ BW := bw (tb6 43 (by decide +kernel)) (by decide +kernel)
theorem dX12_init_67 : decode cX12_init 67 = .ok (.putfield 32, 3) := by decide +kernel
theorem dX12_init_70 : decode cX12_init 70 = .ok (.aload_n 0, 1) := by decide +kernel
theorem dX12_init_71 : decode cX12_init 71 = .ok (.sipush 132, 3) := by decide +kernel
theorem dX12_init_74 : decode cX12_init 74 = .ok (.newarray .int, 2) := by decide +kernel
theorem m_1244 : (Cond.fieldLink "NoonValleyModel" 35 "NoonValleyModel" "lineB" "[I") ∈ BW := bw (tb6 44 (by decide +kernel)) (by decide +kernel)
theorem dX12_init_76 : decode cX12_init 76 = .ok (.putfield 35, 3) := by decide +kernel
theorem dX12_init_79 : decode cX12_init 79 = .ok (.aload_n 0, 1) := by decide +kernel
theorem dX12_init_80 : decode cX12_init 80 = .ok (.sipush 132, 3) := by decide +kernel
theorem dX12_init_83 : decode cX12_init 83 = .ok (.newarray .int, 2) := by decide +kernel
theorem m_1245 : (Cond.fieldLink "NoonValleyModel" 38 "NoonValleyModel" "lineF" "[I") ∈ BW := bw (tb6 45 (by decide +kernel)) (by decide +kernel)
theorem dX12_init_85 : decode cX12_init 85 = .ok (.putfield 38, 3) := by decide +kernel
theorem dX12_init_88 : decode cX12_init 88 = .ok (.aload_n 0, 1) := by decide +kernel
theorem dX12_init_89 : decode cX12_init 89 = .ok (.sipush 132, 3) := by decide +kernel
theorem dX12_init_92 : decode cX12_init 92 = .ok (.newarray .int, 2) := by decide +kernel
theorem m_1246 : (Cond.fieldLink "NoonValleyModel" 41 "NoonValleyModel" "lineT" "[I") ∈ BW := bw (tb6 46 (by decide +kernel)) (by decide +kernel)
theorem dX12_init_94 : decode cX12_init 94 = .ok (.putfield 41, 3) := by decide +kernel
theorem dX12_init_97 : decode cX12_init 97 = .ok (.aload_n 0, 1) := by decide +kernel
theorem dX12_init_98 : decode cX12_init 98 = .ok (.sipush 132, 3) := by decide +kernel
theorem dX12_init_101 : decode cX12_init 101 = .ok (.newarray .int, 2) := by decide +kernel
theorem m_1247 : (Cond.fieldLink "NoonValleyModel" 44 "NoonValleyModel" "lineDown" "[I") ∈ BW := bw (tb6 47 (by decide +kernel)) (by decide +kernel)
theorem dX12_init_103 : decode cX12_init 103 = .ok (.putfield 44, 3) := by decide +kernel
theorem dX12_init_106 : decode cX12_init 106 = .ok (.aload_n 0, 1) := by decide +kernel
theorem dX12_init_107 : decode cX12_init 107 = .ok (.sipush 132, 3) := by decide +kernel
theorem dX12_init_110 : decode cX12_init 110 = .ok (.newarray .boolean, 2) := by decide +kernel
theorem m_1248 : (Cond.fieldLink "NoonValleyModel" 47 "NoonValleyModel" "isOne" "[Z") ∈ BW := bw (tb6 48 (by decide +kernel)) (by decide +kernel)
theorem dX12_init_112 : decode cX12_init 112 = .ok (.putfield 47, 3) := by decide +kernel
theorem dX12_init_115 : decode cX12_init 115 = .ok (.aload_n 0, 1) := by decide +kernel
theorem dX12_init_116 : decode cX12_init 116 = .ok (.iconst (-1), 1) := by decide +kernel
theorem m_1250 : (Cond.fieldLink "NoonValleyModel" 51 "NoonValleyModel" "moreA" "I") ∈ BW := bw (tb6 50 (by decide +kernel)) (by decide +kernel)
theorem dX12_init_117 : decode cX12_init 117 = .ok (.putfield 51, 3) := by decide +kernel
theorem dX12_init_120 : decode cX12_init 120 = .ok (.aload_n 0, 1) := by decide +kernel
theorem dX12_init_121 : decode cX12_init 121 = .ok (.iconst (-1), 1) := by decide +kernel
theorem m_1251 : (Cond.fieldLink "NoonValleyModel" 55 "NoonValleyModel" "moreB" "I") ∈ BW := bw (tb6 51 (by decide +kernel)) (by decide +kernel)
theorem dX12_init_122 : decode cX12_init 122 = .ok (.putfield 55, 3) := by decide +kernel
theorem dX12_init_125 : decode cX12_init 125 = .ok (.aload_n 0, 1) := by decide +kernel
theorem dX12_init_126 : decode cX12_init 126 = .ok (.bipush 12, 2) := by decide +kernel
theorem dX12_init_128 : decode cX12_init 128 = .ok (.newarray .int, 2) := by decide +kernel
theorem m_1252 : (Cond.fieldLink "NoonValleyModel" 58 "NoonValleyModel" "planOf" "[I") ∈ BW := bw (tb6 52 (by decide +kernel)) (by decide +kernel)
theorem dX12_init_130 : decode cX12_init 130 = .ok (.putfield 58, 3) := by decide +kernel
theorem dX12_init_133 : decode cX12_init 133 = .ok (.aload_n 0, 1) := by decide +kernel
theorem dX12_init_134 : decode cX12_init 134 = .ok (.bipush 12, 2) := by decide +kernel
theorem dX12_init_136 : decode cX12_init 136 = .ok (.newarray .int, 2) := by decide +kernel
theorem m_1253 : (Cond.fieldLink "NoonValleyModel" 61 "NoonValleyModel" "calls" "[I") ∈ BW := bw (tb6 53 (by decide +kernel)) (by decide +kernel)
theorem dX12_init_138 : decode cX12_init 138 = .ok (.putfield 61, 3) := by decide +kernel
theorem dX12_init_141 : decode cX12_init 141 = .ok (.aload_n 0, 1) := by decide +kernel
theorem dX12_init_142 : decode cX12_init 142 = .ok (.sipush 480, 3) := by decide +kernel
theorem dX12_init_145 : decode cX12_init 145 = .ok (.newarray .int, 2) := by decide +kernel
theorem m_1254 : (Cond.fieldLink "NoonValleyModel" 64 "NoonValleyModel" "callHour" "[I") ∈ BW := bw (tb6 54 (by decide +kernel)) (by decide +kernel)
theorem dX12_init_147 : decode cX12_init 147 = .ok (.putfield 64, 3) := by decide +kernel
theorem dX12_init_150 : decode cX12_init 150 = .ok (.aload_n 0, 1) := by decide +kernel
theorem dX12_init_151 : decode cX12_init 151 = .ok (.sipush 480, 3) := by decide +kernel
theorem dX12_init_154 : decode cX12_init 154 = .ok (.newarray .int, 2) := by decide +kernel
theorem m_1255 : (Cond.fieldLink "NoonValleyModel" 67 "NoonValleyModel" "callKind" "[I") ∈ BW := bw (tb6 55 (by decide +kernel)) (by decide +kernel)
theorem dX12_init_156 : decode cX12_init 156 = .ok (.putfield 67, 3) := by decide +kernel
theorem dX12_init_159 : decode cX12_init 159 = .ok (.aload_n 0, 1) := by decide +kernel
theorem dX12_init_160 : decode cX12_init 160 = .ok (.sipush 480, 3) := by decide +kernel
theorem dX12_init_163 : decode cX12_init 163 = .ok (.newarray .int, 2) := by decide +kernel
theorem m_1256 : (Cond.fieldLink "NoonValleyModel" 70 "NoonValleyModel" "callOne" "[I") ∈ BW := bw (tb6 56 (by decide +kernel)) (by decide +kernel)
theorem dX12_init_165 : decode cX12_init 165 = .ok (.putfield 70, 3) := by decide +kernel
theorem dX12_init_168 : decode cX12_init 168 = .ok (.aload_n 0, 1) := by decide +kernel
theorem dX12_init_169 : decode cX12_init 169 = .ok (.sipush 480, 3) := by decide +kernel
theorem dX12_init_172 : decode cX12_init 172 = .ok (.newarray .int, 2) := by decide +kernel
theorem m_1257 : (Cond.fieldLink "NoonValleyModel" 73 "NoonValleyModel" "callOther" "[I") ∈ BW := bw (tb6 57 (by decide +kernel)) (by decide +kernel)
theorem dX12_init_174 : decode cX12_init 174 = .ok (.putfield 73, 3) := by decide +kernel
theorem dX12_init_177 : decode cX12_init 177 = .ok (.aload_n 0, 1) := by decide +kernel
theorem dX12_init_178 : decode cX12_init 178 = .ok (.bipush 40, 2) := by decide +kernel
theorem dX12_init_180 : decode cX12_init 180 = .ok (.newarray .int, 2) := by decide +kernel
theorem m_1259 : (Cond.fieldLink "NoonValleyModel" 76 "NoonValleyModel" "law" "[I") ∈ BW := bw (tb6 59 (by decide +kernel)) (by decide +kernel)
theorem dX12_init_182 : decode cX12_init 182 = .ok (.putfield 76, 3) := by decide +kernel
theorem dX12_init_185 : decode cX12_init 185 = .ok (.aload_n 0, 1) := by decide +kernel
theorem dX12_init_186 : decode cX12_init 186 = .ok (.bipush 40, 2) := by decide +kernel
theorem dX12_init_188 : decode cX12_init 188 = .ok (.newarray .int, 2) := by decide +kernel
theorem m_1260 : (Cond.fieldLink "NoonValleyModel" 79 "NoonValleyModel" "reached" "[I") ∈ BW := bw (tb6 60 (by decide +kernel)) (by decide +kernel)
theorem dX12_init_190 : decode cX12_init 190 = .ok (.putfield 79, 3) := by decide +kernel
theorem dX12_init_193 : decode cX12_init 193 = .ok (.aload_n 0, 1) := by decide +kernel
theorem dX12_init_194 : decode cX12_init 194 = .ok (.sipush 175, 3) := by decide +kernel
theorem dX12_init_197 : decode cX12_init 197 = .ok (.newarray .int, 2) := by decide +kernel
theorem m_1261 : (Cond.fieldLink "NoonValleyModel" 82 "NoonValleyModel" "after" "[I") ∈ BW := bw (tb6 61 (by decide +kernel)) (by decide +kernel)
theorem dX12_init_199 : decode cX12_init 199 = .ok (.putfield 82, 3) := by decide +kernel
theorem dX12_init_202 : decode cX12_init 202 = .ok (.aload_n 0, 1) := by decide +kernel
theorem dX12_init_203 : decode cX12_init 203 = .ok (.sipush 175, 3) := by decide +kernel
theorem dX12_init_206 : decode cX12_init 206 = .ok (.newarray .int, 2) := by decide +kernel
theorem m_1262 : (Cond.fieldLink "NoonValleyModel" 85 "NoonValleyModel" "once" "[I") ∈ BW := bw (tb6 62 (by decide +kernel)) (by decide +kernel)
theorem dX12_init_208 : decode cX12_init 208 = .ok (.putfield 85, 3) := by decide +kernel
theorem dX12_init_211 : decode cX12_init 211 = .ok (.aload_n 0, 1) := by decide +kernel
theorem dX12_init_212 : decode cX12_init 212 = .ok (.bipush 7, 2) := by decide +kernel
theorem dX12_init_214 : decode cX12_init 214 = .ok (.newarray .int, 2) := by decide +kernel
theorem m_1263 : (Cond.fieldLink "NoonValleyModel" 88 "NoonValleyModel" "fresh" "[I") ∈ BW := bw (tb6 63 (by decide +kernel)) (by decide +kernel)
theorem dX12_init_216 : decode cX12_init 216 = .ok (.putfield 88, 3) := by decide +kernel
theorem dX12_init_219 : decode cX12_init 219 = .ok (.aload_n 0, 1) := by decide +kernel
theorem dX12_init_220 : decode cX12_init 220 = .ok (.bipush 7, 2) := by decide +kernel
theorem dX12_init_222 : decode cX12_init 222 = .ok (.newarray .int, 2) := by decide +kernel
theorem m_1264 : (Cond.fieldLink "NoonValleyModel" 91 "NoonValleyModel" "twice" "[I") ∈ BW := bw (tb6 64 (by decide +kernel)) (by decide +kernel)
theorem dX12_init_224 : decode cX12_init 224 = .ok (.putfield 91, 3) := by decide +kernel
theorem dX12_init_227 : decode cX12_init 227 = .ok (.aload_n 0, 1) := by decide +kernel
theorem m_1229 : (Cond.constant "NoonValleyModel" 94 (425984 : Int32)) ∈ BW := bw (tb6 29 (by decide +kernel)) (by decide +kernel)
theorem dX12_init_228 : decode cX12_init 228 = .ok (.ldc 94, 2) := by decide +kernel
theorem dX12_init_230 : decode cX12_init 230 = .ok (.newarray .byte, 2) := by decide +kernel
theorem m_1265 : (Cond.fieldLink "NoonValleyModel" 95 "NoonValleyModel" "need" "[B") ∈ BW := bw (tb6 65 (by decide +kernel)) (by decide +kernel)
theorem dX12_init_232 : decode cX12_init 232 = .ok (.putfield 95, 3) := by decide +kernel
theorem dX12_init_235 : decode cX12_init 235 = .ok (.aload_n 0, 1) := by decide +kernel
theorem dX12_init_236 : decode cX12_init 236 = .ok (.bipush 7, 2) := by decide +kernel
theorem dX12_init_238 : decode cX12_init 238 = .ok (.newarray .int, 2) := by decide +kernel
theorem m_1266 : (Cond.fieldLink "NoonValleyModel" 98 "NoonValleyModel" "row" "[I") ∈ BW := bw (tb6 66 (by decide +kernel)) (by decide +kernel)
theorem dX12_init_240 : decode cX12_init 240 = .ok (.putfield 98, 3) := by decide +kernel
theorem dX12_init_243 : decode cX12_init 243 = .ok (.aload_n 0, 1) := by decide +kernel
theorem dX12_init_244 : decode cX12_init 244 = .ok (.bipush 7, 2) := by decide +kernel
theorem dX12_init_246 : decode cX12_init 246 = .ok (.newarray .int, 2) := by decide +kernel
theorem m_1267 : (Cond.fieldLink "NoonValleyModel" 101 "NoonValleyModel" "lowRow" "[I") ∈ BW := bw (tb6 67 (by decide +kernel)) (by decide +kernel)
theorem dX12_init_248 : decode cX12_init 248 = .ok (.putfield 101, 3) := by decide +kernel
theorem dX12_init_251 : decode cX12_init 251 = .ok (.aload_n 0, 1) := by decide +kernel
theorem dX12_init_252 : decode cX12_init 252 = .ok (.bipush 112, 2) := by decide +kernel
theorem dX12_init_254 : decode cX12_init 254 = .ok (.newarray .int, 2) := by decide +kernel
theorem m_1273 : (Cond.fieldLink "NoonValleyModel" 104 "NoonValleyModel" "things" "[I") ∈ BW := bw (tb6 73 (by decide +kernel)) (by decide +kernel)
theorem dX12_init_256 : decode cX12_init 256 = .ok (.putfield 104, 3) := by decide +kernel
theorem dX12_init_259 : decode cX12_init 259 = .ok (.aload_n 0, 1) := by decide +kernel
theorem dX12_init_260 : decode cX12_init 260 = .ok (.bipush 16, 2) := by decide +kernel
theorem dX12_init_262 : decode cX12_init 262 = .ok (.newarray .int, 2) := by decide +kernel
theorem m_1274 : (Cond.fieldLink "NoonValleyModel" 107 "NoonValleyModel" "gossipRow" "[I") ∈ BW := bw (tb6 74 (by decide +kernel)) (by decide +kernel)
theorem dX12_init_264 : decode cX12_init 264 = .ok (.putfield 107, 3) := by decide +kernel
theorem dX12_init_267 : decode cX12_init 267 = .ok (.aload_n 0, 1) := by decide +kernel
theorem dX12_init_268 : decode cX12_init 268 = .ok (.bipush 12, 2) := by decide +kernel
theorem dX12_init_270 : decode cX12_init 270 = .ok (.newarray .boolean, 2) := by decide +kernel
theorem m_1275 : (Cond.fieldLink "NoonValleyModel" 110 "NoonValleyModel" "isLower" "[Z") ∈ BW := bw (tb6 75 (by decide +kernel)) (by decide +kernel)
theorem dX12_init_272 : decode cX12_init 272 = .ok (.putfield 110, 3) := by decide +kernel
theorem dX12_init_275 : decode cX12_init 275 = .ok (.aload_n 0, 1) := by decide +kernel
theorem m_1230 : (Cond.constant "NoonValleyModel" 113 (65536 : Int32)) ∈ BW := bw (tb6 30 (by decide +kernel)) (by decide +kernel)
theorem dX12_init_276 : decode cX12_init 276 = .ok (.ldc 113, 2) := by decide +kernel
theorem dX12_init_278 : decode cX12_init 278 = .ok (.newarray .int, 2) := by decide +kernel
theorem m_1276 : (Cond.fieldLink "NoonValleyModel" 114 "NoonValleyModel" "cost" "[I") ∈ BW := bw (tb6 76 (by decide +kernel)) (by decide +kernel)
theorem dX12_init_280 : decode cX12_init 280 = .ok (.putfield 114, 3) := by decide +kernel
theorem dX12_init_283 : decode cX12_init 283 = .ok (.aload_n 0, 1) := by decide +kernel
theorem dX12_init_284 : decode cX12_init 284 = .ok (.ldc 113, 2) := by decide +kernel
theorem dX12_init_286 : decode cX12_init 286 = .ok (.newarray .int, 2) := by decide +kernel
theorem m_1277 : (Cond.fieldLink "NoonValleyModel" 117 "NoonValleyModel" "costNext" "[I") ∈ BW := bw (tb6 77 (by decide +kernel)) (by decide +kernel)
theorem dX12_init_288 : decode cX12_init 288 = .ok (.putfield 117, 3) := by decide +kernel
theorem dX12_init_291 : decode cX12_init 291 = .ok (.aload_n 0, 1) := by decide +kernel
theorem dX12_init_292 : decode cX12_init 292 = .ok (.bipush 9, 2) := by decide +kernel
theorem dX12_init_294 : decode cX12_init 294 = .ok (.newarray .int, 2) := by decide +kernel
theorem m_1278 : (Cond.fieldLink "NoonValleyModel" 120 "NoonValleyModel" "tradeCosts" "[I") ∈ BW := bw (tb6 78 (by decide +kernel)) (by decide +kernel)
theorem dX12_init_296 : decode cX12_init 296 = .ok (.putfield 120, 3) := by decide +kernel
theorem dX12_init_299 : decode cX12_init 299 = .ok (.aload_n 0, 1) := by decide +kernel
theorem dX12_init_300 : decode cX12_init 300 = .ok (.sipush 420, 3) := by decide +kernel
theorem dX12_init_303 : decode cX12_init 303 = .ok (.newarray .int, 2) := by decide +kernel
theorem m_1279 : (Cond.fieldLink "NoonValleyModel" 123 "NoonValleyModel" "cards" "[I") ∈ BW := bw (tb6 79 (by decide +kernel)) (by decide +kernel)
theorem dX12_init_305 : decode cX12_init 305 = .ok (.putfield 123, 3) := by decide +kernel
theorem dX12_init_308 : decode cX12_init 308 = .ok (.aload_n 0, 1) := by decide +kernel
theorem dX12_init_309 : decode cX12_init 309 = .ok (.bipush 77, 2) := by decide +kernel
theorem dX12_init_311 : decode cX12_init 311 = .ok (.newarray .int, 2) := by decide +kernel
theorem m_1280 : (Cond.fieldLink "NoonValleyModel" 126 "NoonValleyModel" "cardLong" "[I") ∈ BW := bw (tb6 80 (by decide +kernel)) (by decide +kernel)
theorem dX12_init_313 : decode cX12_init 313 = .ok (.putfield 126, 3) := by decide +kernel
theorem dX12_init_316 : decode cX12_init 316 = .ok (.aload_n 0, 1) := by decide +kernel
theorem dX12_init_317 : decode cX12_init 317 = .ok (.bipush 7, 2) := by decide +kernel
theorem dX12_init_319 : decode cX12_init 319 = .ok (.newarray .int, 2) := by decide +kernel
theorem m_1281 : (Cond.fieldLink "NoonValleyModel" 129 "NoonValleyModel" "gone" "[I") ∈ BW := bw (tb6 81 (by decide +kernel)) (by decide +kernel)
theorem dX12_init_321 : decode cX12_init 321 = .ok (.putfield 129, 3) := by decide +kernel
theorem dX12_init_324 : decode cX12_init 324 = .ok (.aload_n 0, 1) := by decide +kernel
theorem dX12_init_325 : decode cX12_init 325 = .ok (.bipush 49, 2) := by decide +kernel
theorem dX12_init_327 : decode cX12_init 327 = .ok (.newarray .int, 2) := by decide +kernel
theorem m_1282 : (Cond.fieldLink "NoonValleyModel" 132 "NoonValleyModel" "below" "[I") ∈ BW := bw (tb6 82 (by decide +kernel)) (by decide +kernel)
theorem dX12_init_329 : decode cX12_init 329 = .ok (.putfield 132, 3) := by decide +kernel
theorem dX12_init_332 : decode cX12_init 332 = .ok (.aload_n 0, 1) := by decide +kernel
theorem dX12_init_333 : decode cX12_init 333 = .ok (.bipush 7, 2) := by decide +kernel
theorem dX12_init_335 : decode cX12_init 335 = .ok (.newarray .int, 2) := by decide +kernel
theorem m_1283 : (Cond.fieldLink "NoonValleyModel" 135 "NoonValleyModel" "belowMany" "[I") ∈ BW := bw (tb6 83 (by decide +kernel)) (by decide +kernel)
theorem dX12_init_337 : decode cX12_init 337 = .ok (.putfield 135, 3) := by decide +kernel
theorem dX12_init_340 : decode cX12_init 340 = .ok (.aload_n 0, 1) := by decide +kernel
theorem dX12_init_341 : decode cX12_init 341 = .ok (.bipush 7, 2) := by decide +kernel
theorem dX12_init_343 : decode cX12_init 343 = .ok (.newarray .int, 2) := by decide +kernel
theorem m_1284 : (Cond.fieldLink "NoonValleyModel" 138 "NoonValleyModel" "time" "[I") ∈ BW := bw (tb6 84 (by decide +kernel)) (by decide +kernel)
theorem dX12_init_345 : decode cX12_init 345 = .ok (.putfield 138, 3) := by decide +kernel
theorem dX12_init_348 : decode cX12_init 348 = .ok (.aload_n 0, 1) := by decide +kernel
theorem dX12_init_349 : decode cX12_init 349 = .ok (.iconst 3, 1) := by decide +kernel
theorem dX12_init_350 : decode cX12_init 350 = .ok (.newarray .int, 2) := by decide +kernel
theorem m_1285 : (Cond.fieldLink "NoonValleyModel" 141 "NoonValleyModel" "broken" "[I") ∈ BW := bw (tb6 85 (by decide +kernel)) (by decide +kernel)
theorem dX12_init_352 : decode cX12_init 352 = .ok (.putfield 141, 3) := by decide +kernel
theorem dX12_init_355 : decode cX12_init 355 = .ok (.aload_n 0, 1) := by decide +kernel
theorem dX12_init_356 : decode cX12_init 356 = .ok (.bipush 16, 2) := by decide +kernel
theorem dX12_init_358 : decode cX12_init 358 = .ok (.newarray .long, 2) := by decide +kernel
theorem m_1286 : (Cond.fieldLink "NoonValleyModel" 144 "NoonValleyModel" "ways" "[J") ∈ BW := bw (tb6 86 (by decide +kernel)) (by decide +kernel)
theorem dX12_init_360 : decode cX12_init 360 = .ok (.putfield 144, 3) := by decide +kernel
theorem dX12_init_363 : decode cX12_init 363 = .ok (.aload_n 0, 1) := by decide +kernel
theorem dX12_init_364 : decode cX12_init 364 = .ok (.bipush 16, 2) := by decide +kernel
theorem dX12_init_366 : decode cX12_init 366 = .ok (.newarray .long, 2) := by decide +kernel
theorem m_1287 : (Cond.fieldLink "NoonValleyModel" 148 "NoonValleyModel" "waysNext" "[J") ∈ BW := bw (tb6 87 (by decide +kernel)) (by decide +kernel)
theorem dX12_init_368 : decode cX12_init 368 = .ok (.putfield 148, 3) := by decide +kernel
theorem dX12_init_371 : decode cX12_init 371 = .ok (.aload_n 0, 1) := by decide +kernel
theorem dX12_init_372 : decode cX12_init 372 = .ok (.sipush 308, 3) := by decide +kernel
theorem dX12_init_375 : decode cX12_init 375 = .ok (.newarray .int, 2) := by decide +kernel
theorem m_1288 : (Cond.fieldLink "NoonValleyModel" 151 "NoonValleyModel" "tales" "[I") ∈ BW := bw (tb6 88 (by decide +kernel)) (by decide +kernel)
theorem dX12_init_377 : decode cX12_init 377 = .ok (.putfield 151, 3) := by decide +kernel
theorem dX12_init_380 : decode cX12_init 380 = .ok (.aload_n 0, 1) := by decide +kernel
theorem dX12_init_381 : decode cX12_init 381 = .ok (.sipush 16384, 3) := by decide +kernel
theorem dX12_init_384 : decode cX12_init 384 = .ok (.newarray .boolean, 2) := by decide +kernel
theorem m_1289 : (Cond.fieldLink "NoonValleyModel" 154 "NoonValleyModel" "can" "[Z") ∈ BW := bw (tb6 89 (by decide +kernel)) (by decide +kernel)
theorem dX12_init_386 : decode cX12_init 386 = .ok (.putfield 154, 3) := by decide +kernel
theorem dX12_init_389 : decode cX12_init 389 = .ok (.aload_n 0, 1) := by decide +kernel
theorem dX12_init_390 : decode cX12_init 390 = .ok (.sipush 16384, 3) := by decide +kernel
theorem dX12_init_393 : decode cX12_init 393 = .ok (.newarray .boolean, 2) := by decide +kernel
theorem m_1290 : (Cond.fieldLink "NoonValleyModel" 157 "NoonValleyModel" "canNext" "[Z") ∈ BW := bw (tb6 90 (by decide +kernel)) (by decide +kernel)
theorem dX12_init_395 : decode cX12_init 395 = .ok (.putfield 157, 3) := by decide +kernel
theorem dX12_init_398 : decode cX12_init 398 = .ok (.return_, 1) := by decide +kernel
set_option maxHeartbeats 4000000 in
set_option maxRecDepth 100000 in
theorem C_X7_state (l : Launch) (g : GG) (a b : Int32) : MetI l g yX7_state cX7_state 2 (some .int) 0 0 0 [.int a, .int b] [] (fun r u => u = []) := by
  refine MetI.of (own := RX7) rfl (by decide) (Nat.le_of_ble_eq_true rfl) ?_
  intro p e s m below meth c A ls args Q hQ X hr hin hW hl
  have hx := X.1
  have hb := X.2.1
  have hl : lv_has ls 2 [(0, .int a), (1, .int b)] := hl
  refine lv_iload_n (pc := 0) hx hb dX7_state_0 rfl (lv_at hl 0 rfl) ?_
  refine lv_iload_n (pc := 1) hx hb dX7_state_1 rfl (lv_at hl 1 rfl) ?_
  refine lv_bipush (v := 7) (pc := 2) hx hb dX7_state_2 (by decide) ?_
  refine lv_ishl (pc := 4) hx hb dX7_state_4 ?_
  refine lv_ior (pc := 5) hx hb dX7_state_5 ?_
  exact e_i X hQ hr hW (u := []) [] rfl rfl (rfl) ⟨Nat.le_of_ble_eq_true rfl, Nat.le_of_ble_eq_true rfl⟩ dX7_state_6

set_option maxHeartbeats 4000000 in
set_option maxRecDepth 100000 in
theorem C_X7_init (l : Launch) (g : GG) (h0 : Nat) : MetV l g yX7_init cX7_init 3 none 2 12 11635 [.ref h0] [(h0, .inr (7, [.null, .int 0, .int 0, .int 0, .int 0, .null, .null, .null, .null, .null, .null, .null, .int 0, .int 0, .int 0, .int 0, .int 0]))] (fun u => u = []) := by
  refine MetV.of (own := RX7) rfl (by decide) (Nat.le_of_ble_eq_true rfl) ?_
  intro p e s m below meth c A ls args Q hQ X hr hin hW hl
  have hx := X.1
  have hb := X.2.1
  have hl : lv_has ls 3 [(0, .ref h0)] := hl
  refine lv_aload_n (pc := 0) hx hb dX7_init_0 rfl (lv_at hl 0 rfl) ?_
  refine W.objInit hx hb X.2.2.2.1 (X.2.2.2.2.1 _ m_80) (X.2.2.2.2.1 _ m_28) (X.2.2.2.2.1 _ m_29) rfl (by rw [X.2.2.1]; exact hl.1) rfl dX7_init_1 (Nat.le_of_ble_eq_true rfl) (Nat.le_of_ble_eq_true rfl) ?_
  refine W.eq (g2 := F0 m 4 ls []) rfl ?_
  refine lv_aload_n (pc := 4) hx hb dX7_init_4 rfl (lv_at hl 0 rfl) ?_
  refine r_new (fs := [.null, .null, .null, .int 0, .null, .int 0]) X hW ciX5 m_81 m_82 m_5 (by decide +kernel) ⟨Nat.le_of_ble_eq_true rfl, Nat.le_of_ble_eq_true rfl⟩ dX7_init_5 (fun q1 H hW => ?_)
  have hW : WD g A s _ _ [(h0, .inr (7, [.null, .int 0, .int 0, .int 0, .int 0, .null, .null, .null, .null, .null, .null, .null, .int 0, .int 0, .int 0, .int 0, .int 0])), (q1, .inr (5, [.null, .null, .null, .int 0, .null, .int 0]))] := hW
  refine lv_dup (pc := 8) hx hb dX7_init_8 rfl ?_
  refine c_INv (pc := 9) (As := []) (rest := [.ref q1, .ref h0]) (wr := [(h0, .inr (7, [.null, .int 0, .int 0, .int 0, .int 0, .null, .null, .null, .null, .null, .null, .null, .int 0, .int 0, .int 0, .int 0, .int 0]))]) X hW (C_X5_init l g q1) vX7_11 [1] [0] rfl rfl rfl rfl rfl rfl hl.1 rfl (Nat.le_of_ble_eq_true rfl) ⟨Nat.le_of_ble_eq_true rfl, Nat.le_of_ble_eq_true rfl⟩ ⟨Nat.le_of_ble_eq_true rfl, Nat.le_of_ble_eq_true rfl⟩ dX7_init_9 (fun u9 H locs hq hW => ?_)
  obtain rfl := hq
  have hW : WD g A s _ _ [(h0, .inr (7, [.null, .int 0, .int 0, .int 0, .int 0, .null, .null, .null, .null, .null, .null, .null, .int 0, .int 0, .int 0, .int 0, .int 0]))] := hW
  refine r_putF (ws' := [(h0, .inr (7, [.ref q1, .int 0, .int 0, .int 0, .int 0, .null, .null, .null, .null, .null, .null, .null, .int 0, .int 0, .int 0, .int 0, .int 0]))]) X hin hW 0 ciX7 0 rfl (by decide) m_113 rfl rfl rfl rfl rfl (Nat.le_of_ble_eq_true rfl) rfl dX7_init_12 (fun H locs hW => ?_)
  refine lv_aload_n (pc := 15) hx hb dX7_init_15 rfl (lv_at hl 0 rfl) ?_
  refine lv_sipush (v := 175) (pc := 16) hx hb dX7_init_16 (by decide) ?_
  refine r_newa (a0 := (175, .inl (fun _ => 0))) X hW .int rfl m_47 1 rfl (by intro C h; cases h) (fun _ => rfl) (by decide) (by decide) (Nat.le_of_ble_eq_true rfl) ⟨Nat.le_of_ble_eq_true rfl, Nat.le_of_ble_eq_true rfl⟩ dX7_init_19 (fun q2 H hW => ?_)
  have hW : WD g A s _ _ [(h0, .inr (7, [.ref q1, .int 0, .int 0, .int 0, .int 0, .null, .null, .null, .null, .null, .null, .null, .int 0, .int 0, .int 0, .int 0, .int 0]))] := hW.pick [0] rfl rfl
  refine r_putF (ws' := [(h0, .inr (7, [.ref q1, .int 0, .int 0, .int 0, .int 0, .ref q2, .null, .null, .null, .null, .null, .null, .int 0, .int 0, .int 0, .int 0, .int 0]))]) X hin hW 0 ciX7 5 rfl (by decide) m_118 rfl rfl rfl rfl rfl (Nat.le_of_ble_eq_true rfl) rfl dX7_init_21 (fun H locs hW => ?_)
  refine lv_aload_n (pc := 24) hx hb dX7_init_24 rfl (lv_at hl 0 rfl) ?_
  refine lv_sipush (v := 128) (pc := 25) hx hb dX7_init_25 (by decide) ?_
  refine r_newa (a0 := (128, .inl (fun _ => 0))) X hW .int rfl m_47 1 rfl (by intro C h; cases h) (fun _ => rfl) (by decide) (by decide) (Nat.le_of_ble_eq_true rfl) ⟨Nat.le_of_ble_eq_true rfl, Nat.le_of_ble_eq_true rfl⟩ dX7_init_28 (fun q3 H hW => ?_)
  have hW : WD g A s _ _ [(h0, .inr (7, [.ref q1, .int 0, .int 0, .int 0, .int 0, .ref q2, .null, .null, .null, .null, .null, .null, .int 0, .int 0, .int 0, .int 0, .int 0])), (q3, .inl (g.2.1 1, 128, .inl (fun _ => 0)))] := hW
  refine r_putF (ws' := [(h0, .inr (7, [.ref q1, .int 0, .int 0, .int 0, .int 0, .ref q2, .ref q3, .null, .null, .null, .null, .null, .int 0, .int 0, .int 0, .int 0, .int 0])), (q3, .inl (g.2.1 1, 128, .inl (fun _ => 0)))]) X hin hW 0 ciX7 6 rfl (by decide) m_119 rfl rfl rfl rfl rfl (Nat.le_of_ble_eq_true rfl) rfl dX7_init_30 (fun H locs hW => ?_)
  refine lv_aload_n (pc := 33) hx hb dX7_init_33 rfl (lv_at hl 0 rfl) ?_
  refine lv_sipush (v := 2187) (pc := 34) hx hb dX7_init_34 (by decide) ?_
  refine r_newa (a0 := (2187, .inl (fun _ => 0))) X hW .int rfl m_47 1 rfl (by intro C h; cases h) (fun _ => rfl) (by decide) (by decide) (Nat.le_of_ble_eq_true rfl) ⟨Nat.le_of_ble_eq_true rfl, Nat.le_of_ble_eq_true rfl⟩ dX7_init_37 (fun q4 H hW => ?_)
  have hW : WD g A s _ _ [(h0, .inr (7, [.ref q1, .int 0, .int 0, .int 0, .int 0, .ref q2, .ref q3, .null, .null, .null, .null, .null, .int 0, .int 0, .int 0, .int 0, .int 0])), (q3, .inl (g.2.1 1, 128, .inl (fun _ => 0))), (q4, .inl (g.2.1 1, 2187, .inl (fun _ => 0)))] := hW
  refine r_putF (ws' := [(h0, .inr (7, [.ref q1, .int 0, .int 0, .int 0, .int 0, .ref q2, .ref q3, .ref q4, .null, .null, .null, .null, .int 0, .int 0, .int 0, .int 0, .int 0])), (q3, .inl (g.2.1 1, 128, .inl (fun _ => 0))), (q4, .inl (g.2.1 1, 2187, .inl (fun _ => 0)))]) X hin hW 0 ciX7 7 rfl (by decide) m_120 rfl rfl rfl rfl rfl (Nat.le_of_ble_eq_true rfl) rfl dX7_init_39 (fun H locs hW => ?_)
  refine lv_aload_n (pc := 42) hx hb dX7_init_42 rfl (lv_at hl 0 rfl) ?_
  refine lv_sipush (v := 2187) (pc := 43) hx hb dX7_init_43 (by decide) ?_
  refine r_newa (a0 := (2187, .inl (fun _ => 0))) X hW .int rfl m_47 1 rfl (by intro C h; cases h) (fun _ => rfl) (by decide) (by decide) (Nat.le_of_ble_eq_true rfl) ⟨Nat.le_of_ble_eq_true rfl, Nat.le_of_ble_eq_true rfl⟩ dX7_init_46 (fun q5 H hW => ?_)
  have hW : WD g A s _ _ [(h0, .inr (7, [.ref q1, .int 0, .int 0, .int 0, .int 0, .ref q2, .ref q3, .ref q4, .null, .null, .null, .null, .int 0, .int 0, .int 0, .int 0, .int 0])), (q3, .inl (g.2.1 1, 128, .inl (fun _ => 0))), (q4, .inl (g.2.1 1, 2187, .inl (fun _ => 0)))] := hW.pick [0, 1, 2] rfl rfl
  refine r_putF (ws' := [(h0, .inr (7, [.ref q1, .int 0, .int 0, .int 0, .int 0, .ref q2, .ref q3, .ref q4, .ref q5, .null, .null, .null, .int 0, .int 0, .int 0, .int 0, .int 0])), (q3, .inl (g.2.1 1, 128, .inl (fun _ => 0))), (q4, .inl (g.2.1 1, 2187, .inl (fun _ => 0)))]) X hin hW 0 ciX7 8 rfl (by decide) m_121 rfl rfl rfl rfl rfl (Nat.le_of_ble_eq_true rfl) rfl dX7_init_48 (fun H locs hW => ?_)
  refine lv_aload_n (pc := 51) hx hb dX7_init_51 rfl (lv_at hl 0 rfl) ?_
  refine lv_sipush (v := 2187) (pc := 52) hx hb dX7_init_52 (by decide) ?_
  refine r_newa (a0 := (2187, .inl (fun _ => 0))) X hW .int rfl m_47 1 rfl (by intro C h; cases h) (fun _ => rfl) (by decide) (by decide) (Nat.le_of_ble_eq_true rfl) ⟨Nat.le_of_ble_eq_true rfl, Nat.le_of_ble_eq_true rfl⟩ dX7_init_55 (fun q6 H hW => ?_)
  have hW : WD g A s _ _ [(h0, .inr (7, [.ref q1, .int 0, .int 0, .int 0, .int 0, .ref q2, .ref q3, .ref q4, .ref q5, .null, .null, .null, .int 0, .int 0, .int 0, .int 0, .int 0])), (q3, .inl (g.2.1 1, 128, .inl (fun _ => 0))), (q4, .inl (g.2.1 1, 2187, .inl (fun _ => 0)))] := hW.pick [0, 1, 2] rfl rfl
  refine r_putF (ws' := [(h0, .inr (7, [.ref q1, .int 0, .int 0, .int 0, .int 0, .ref q2, .ref q3, .ref q4, .ref q5, .ref q6, .null, .null, .int 0, .int 0, .int 0, .int 0, .int 0])), (q3, .inl (g.2.1 1, 128, .inl (fun _ => 0))), (q4, .inl (g.2.1 1, 2187, .inl (fun _ => 0)))]) X hin hW 0 ciX7 9 rfl (by decide) m_122 rfl rfl rfl rfl rfl (Nat.le_of_ble_eq_true rfl) rfl dX7_init_57 (fun H locs hW => ?_)
  refine lv_aload_n (pc := 60) hx hb dX7_init_60 rfl (lv_at hl 0 rfl) ?_
  refine lv_sipush (v := 2187) (pc := 61) hx hb dX7_init_61 (by decide) ?_
  refine r_newa (a0 := (2187, .inl (fun _ => 0))) X hW .int rfl m_47 1 rfl (by intro C h; cases h) (fun _ => rfl) (by decide) (by decide) (Nat.le_of_ble_eq_true rfl) ⟨Nat.le_of_ble_eq_true rfl, Nat.le_of_ble_eq_true rfl⟩ dX7_init_64 (fun q7 H hW => ?_)
  have hW : WD g A s _ _ [(h0, .inr (7, [.ref q1, .int 0, .int 0, .int 0, .int 0, .ref q2, .ref q3, .ref q4, .ref q5, .ref q6, .null, .null, .int 0, .int 0, .int 0, .int 0, .int 0])), (q3, .inl (g.2.1 1, 128, .inl (fun _ => 0))), (q4, .inl (g.2.1 1, 2187, .inl (fun _ => 0)))] := hW.pick [0, 1, 2] rfl rfl
  refine r_put (ws' := [(h0, .inr (7, [.ref q1, .int 0, .int 0, .int 0, .int 0, .ref q2, .ref q3, .ref q4, .ref q5, .ref q6, .ref q7, .null, .int 0, .int 0, .int 0, .int 0, .int 0])), (q3, .inl (g.2.1 1, 128, .inl (fun _ => 0))), (q4, .inl (g.2.1 1, 2187, .inl (fun _ => 0)))]) X hW 0 ciX7 10 rfl (by decide) m_123 rfl rfl rfl rfl (Nat.le_of_ble_eq_true rfl) rfl dX7_init_66 (fun H locs hW => ?_)
  refine lv_aload_n (pc := 69) hx hb dX7_init_69 rfl (lv_at hl 0 rfl) ?_
  refine lv_sipush (v := 2187) (pc := 70) hx hb dX7_init_70 (by decide) ?_
  refine r_newa (a0 := (2187, .inl (fun _ => 0))) X hW .int rfl m_47 1 rfl (by intro C h; cases h) (fun _ => rfl) (by decide) (by decide) (Nat.le_of_ble_eq_true rfl) ⟨Nat.le_of_ble_eq_true rfl, Nat.le_of_ble_eq_true rfl⟩ dX7_init_73 (fun q8 H hW => ?_)
  have hW : WD g A s _ _ [(h0, .inr (7, [.ref q1, .int 0, .int 0, .int 0, .int 0, .ref q2, .ref q3, .ref q4, .ref q5, .ref q6, .ref q7, .null, .int 0, .int 0, .int 0, .int 0, .int 0])), (q3, .inl (g.2.1 1, 128, .inl (fun _ => 0))), (q4, .inl (g.2.1 1, 2187, .inl (fun _ => 0)))] := hW.pick [0, 1, 2] rfl rfl
  refine r_put (ws' := [(h0, .inr (7, [.ref q1, .int 0, .int 0, .int 0, .int 0, .ref q2, .ref q3, .ref q4, .ref q5, .ref q6, .ref q7, .ref q8, .int 0, .int 0, .int 0, .int 0, .int 0])), (q3, .inl (g.2.1 1, 128, .inl (fun _ => 0))), (q4, .inl (g.2.1 1, 2187, .inl (fun _ => 0)))]) X hW 0 ciX7 11 rfl (by decide) m_124 rfl rfl rfl rfl (Nat.le_of_ble_eq_true rfl) rfl dX7_init_75 (fun H locs hW => ?_)
  refine lv_iconst (v := 1) (pc := 78) hx hb dX7_init_78 (by decide) ?_
  refine lv_istore_n (lv' := [(1, .int 1), (0, .ref h0)]) (pc := 79) hx hb dX7_init_79 rfl hl (by decide) rfl (fun ls hl => ?_)
  have loop1 : ∀ (n : Nat) (i : Nat) (f : Nat → Int32), (128 < n + i) → (1 ≤ i) → (i ≤ 128) → (∀ j, j < i → f j = nI (pw3 7 j)) → ∀ (H : Heap) (locs : List Loc) (ls : Array Slot), WD g A s H locs [(h0, .inr (7, [.ref q1, .int 0, .int 0, .int 0, .int 0, .ref q2, .ref q3, .ref q4, .ref q5, .ref q6, .ref q7, .ref q8, .int 0, .int 0, .int 0, .int 0, .int 0])), (q3, .inl (g.2.1 1, 128, .inl f)), (q4, .inl (g.2.1 1, 2187, .inl (fun _ => 0)))] → lv_has ls 3 [(0, .ref h0), (1, .int (nI i))] → W p l e (RM 2 12 11635) s m args below meth c H locs 12 11635 Q (F0 m 80 ls []) := by
    intro n
    induction n with
    | zero =>
      intro i f hm hi hi2 hf
      exact absurd hm (by omega)
    | succ n ih1 =>
      intro i f hm hi hi2 hf H locs ls hW hl
      refine lv_iload_n (pc := 80) hx hb dX7_init_80 rfl (lv_at hl 1 rfl) ?_
      refine lv_sipush (v := 128) (pc := 81) hx hb dX7_init_81 (by decide) ?_
      refine lv_icmp_ge (tgt := 113) (pc := 84) hx hb dX7_init_84 rfl (fun c9 => ?_) (fun c9 => ?_)
      · have hf : ∀ j, j < 128 → f j = nI (pw3 7 j) := fun j hj => hf j (by have := ge_t (k := 128) (by omega) (by decide) c9; omega)
        refine lv_iconst (v := 0) (pc := 113) hx hb dX7_init_113 (by decide) ?_
        refine lv_istore_n (lv' := [(1, .int 0), (0, .ref h0)]) (pc := 114) hx hb dX7_init_114 rfl hl (by decide) rfl (fun ls hl => ?_)
        have loop2 : ∀ (n : Nat) (k : Nat) (sf : Nat → Int32), (128 < n + k) → (k ≤ 128) → ∀ (H : Heap) (locs : List Loc) (ls : Array Slot), WD g A s H locs [(h0, .inr (7, [.ref q1, .int 0, .int 0, .int 0, .int 0, .ref q2, .ref q3, .ref q4, .ref q5, .ref q6, .ref q7, .ref q8, .int 0, .int 0, .int 0, .int 0, .int 0])), (q3, .inl (g.2.1 1, 128, .inl f)), (q4, .inl (g.2.1 1, 2187, .inl sf))] → lv_has ls 3 [(0, .ref h0), (1, .int (nI k))] → W p l e (RM 2 12 11635) s m args below meth c H locs 12 11635 Q (F0 m 115 ls []) := by
          intro n
          induction n with
          | zero =>
            intro k sf hm hk
            exact absurd hm (by omega)
          | succ n ih2 =>
            intro k sf hm hk H locs ls hW hl
            refine lv_iload_n (pc := 115) hx hb dX7_init_115 rfl (lv_at hl 1 rfl) ?_
            refine lv_sipush (v := 128) (pc := 116) hx hb dX7_init_116 (by decide) ?_
            refine lv_icmp_ge (tgt := 174) (pc := 119) hx hb dX7_init_119 rfl (fun c10 => ?_) (fun c10 => ?_)
            · exact e_v X hQ hr hW (u := []) [] rfl rfl (rfl) ⟨Nat.le_of_ble_eq_true rfl, Nat.le_of_ble_eq_true rfl⟩ dX7_init_174
            · have hlt : k < 128 := ge_f (by omega) (by decide) c10
              refine lv_iconst (v := 0) (pc := 122) hx hb dX7_init_122 (by decide) ?_
              refine lv_istore_n (lv' := [(2, .int 0), (0, .ref h0), (1, .int (nI k))]) (pc := 123) hx hb dX7_init_123 rfl hl (by decide) rfl (fun ls hl => ?_)
              have loop3 : ∀ (n : Nat) (o : Nat) (so : Nat → Int32), (128 < n + o) → (o ≤ 128) → ∀ (H : Heap) (locs : List Loc) (ls : Array Slot), WD g A s H locs [(h0, .inr (7, [.ref q1, .int 0, .int 0, .int 0, .int 0, .ref q2, .ref q3, .ref q4, .ref q5, .ref q6, .ref q7, .ref q8, .int 0, .int 0, .int 0, .int 0, .int 0])), (q3, .inl (g.2.1 1, 128, .inl f)), (q4, .inl (g.2.1 1, 2187, .inl so))] → lv_has ls 3 [(0, .ref h0), (1, .int (nI k)), (2, .int (nI o))] → W p l e (RM 2 12 11635) s m args below meth c H locs 12 11635 Q (F0 m 124 ls []) := by
                intro n
                induction n with
                | zero =>
                  intro o so hm ho
                  exact absurd hm (by omega)
                | succ n ih3 =>
                  intro o so hm ho H locs ls hW hl
                  refine lv_iload_n (pc := 124) hx hb dX7_init_124 rfl (lv_at hl 2 rfl) ?_
                  refine lv_sipush (v := 128) (pc := 125) hx hb dX7_init_125 (by decide) ?_
                  refine lv_icmp_ge (tgt := 168) (pc := 128) hx hb dX7_init_128 rfl (fun c11 => ?_) (fun c11 => ?_)
                  · refine lv_iinc (v := nI (k + 1)) (lv' := [(1, .int (nI (k + 1))), (0, .ref h0), (2, .int (nI o))]) (pc := 168) hx hb dX7_init_168 hl (k := 1) rfl (nI_1 k) (by decide) rfl (fun ls hl => ?_)
                    refine lv_goto (tgt := 115) (pc := 171) hx hb dX7_init_171 rfl ?_
                    exact ih2 (k + 1) so (by omega) (by omega) _ _ _ hW (lv_sub hl [1, 0] rfl)
                  · have hlt3 : o < 128 := ge_f (by omega) (by decide) c11
                    refine lv_iload_n (pc := 131) hx hb dX7_init_131 rfl (lv_at hl 1 rfl) ?_
                    refine lv_iload_n (pc := 132) hx hb dX7_init_132 rfl (lv_at hl 2 rfl) ?_
                    refine lv_iand (pc := 133) hx hb dX7_init_133 ?_
                    refine lv_if_ne (tgt := 162) (pc := 134) hx hb dX7_init_134 rfl (fun c12 => ?_) (fun c12 => ?_)
                    · refine lv_iinc (v := nI (o + 1)) (lv' := [(2, .int (nI (o + 1))), (0, .ref h0), (1, .int (nI k))]) (pc := 162) hx hb dX7_init_162 hl (k := 2) rfl (nI_1 o) (by decide) rfl (fun ls hl => ?_)
                      refine lv_goto (tgt := 124) (pc := 165) hx hb dX7_init_165 rfl ?_
                      exact ih3 (o + 1) so (by omega) (by omega) _ _ _ hW (lv_sub hl [1, 2, 0] rfl)
                    · have hz : k &&& o = 0 := by
                        have h9 : nI (k &&& o) = nI 0 := by rw [← fa_and]; exact c12
                        exact (nI_eq (Nat.lt_of_le_of_lt Nat.and_le_left (by omega)) (by decide)).mp h9
                      have hix := pw3_in k hlt o hlt3 hz
                      refine lv_aload_n (pc := 137) hx hb dX7_init_137 rfl (lv_at hl 0 rfl) ?_
                      refine r_get X hW 0 ciX7 7 rfl (by decide) m_120 rfl rfl dX7_init_138 ?_
                      refine lv_iconst (v := 2) (pc := 141) hx hb dX7_init_141 (by decide) ?_
                      refine lv_aload_n (pc := 142) hx hb dX7_init_142 rfl (lv_at hl 0 rfl) ?_
                      refine r_get X hW 0 ciX7 6 rfl (by decide) m_119 rfl rfl dX7_init_143 ?_
                      refine lv_iload_n (pc := 146) hx hb dX7_init_146 rfl (lv_at hl 1 rfl) ?_
                      refine r_iald X hW 1 rfl (vp_in_nI hlt (by decide)) dX7_init_147 ?_
                      refine lv_topi (fun v13 ev13 => ?_)
                      obtain rfl : v13 = nI (pw3 7 k) := ev13.trans (by rw [nI_clamp (by omega)]; exact hf _ hlt)
                      refine lv_imul (pc := 148) hx hb dX7_init_148 ?_
                      refine lv_topi (fun v14 ev14 => ?_)
                      obtain rfl : v14 = nI (2 * pw3 7 k) := ev14.trans (pk_mul 2 _)
                      refine lv_aload_n (pc := 149) hx hb dX7_init_149 rfl (lv_at hl 0 rfl) ?_
                      refine r_get X hW 0 ciX7 6 rfl (by decide) m_119 rfl rfl dX7_init_150 ?_
                      refine lv_iload_n (pc := 153) hx hb dX7_init_153 rfl (lv_at hl 2 rfl) ?_
                      refine r_iald X hW 1 rfl (vp_in_nI hlt3 (by decide)) dX7_init_154 ?_
                      refine lv_topi (fun v15 ev15 => ?_)
                      obtain rfl : v15 = nI (pw3 7 o) := ev15.trans (by rw [nI_clamp (by omega)]; exact hf _ hlt3)
                      refine lv_iadd (pc := 155) hx hb dX7_init_155 ?_
                      refine lv_topi (fun v16 ev16 => ?_)
                      obtain rfl : v16 = nI (2 * pw3 7 k + pw3 7 o) := ev16.trans (nI_add _ _)
                      refine lv_iload_n (pc := 156) hx hb dX7_init_156 rfl (lv_at hl 1 rfl) ?_
                      refine lv_iload_n (pc := 157) hx hb dX7_init_157 rfl (lv_at hl 2 rfl) ?_
                      refine c_Si (pc := 158) (As := [.int (nI k), .int (nI o)]) (rest := [.int (nI (2 * pw3 7 k + pw3 7 o)), .ref q4]) (wr := [(h0, .inr (7, [.ref q1, .int 0, .int 0, .int 0, .int 0, .ref q2, .ref q3, .ref q4, .ref q5, .ref q6, .ref q7, .ref q8, .int 0, .int 0, .int 0, .int 0, .int 0])), (q3, .inl (g.2.1 1, 128, .inl f)), (q4, .inl (g.2.1 1, 2187, .inl so))]) X hW (C_X7_state l g (nI k) (nI o)) vX7_40 [] [0, 1, 2] rfl rfl rfl rfl rfl rfl hl.1 rfl (Nat.le_of_ble_eq_true rfl) ⟨Nat.le_of_ble_eq_true rfl, Nat.le_of_ble_eq_true rfl⟩ ⟨Nat.le_of_ble_eq_true rfl, Nat.le_of_ble_eq_true rfl⟩ dX7_init_158 (fun r17 u9 H locs hq hW => ?_)
                      obtain rfl := hq
                      have hW : WD g A s _ _ [(h0, .inr (7, [.ref q1, .int 0, .int 0, .int 0, .int 0, .ref q2, .ref q3, .ref q4, .ref q5, .ref q6, .ref q7, .ref q8, .int 0, .int 0, .int 0, .int 0, .int 0])), (q3, .inl (g.2.1 1, 128, .inl f)), (q4, .inl (g.2.1 1, 2187, .inl so))] := hW
                      obtain ⟨f18, ef18⟩ : ∃ f9 : Nat → Int32, upd so (nI (2 * pw3 7 k + pw3 7 o)).toNatClampNeg r17 = f9 := ⟨_, rfl⟩
                      refine r_iast (ws' := [(h0, .inr (7, [.ref q1, .int 0, .int 0, .int 0, .int 0, .ref q2, .ref q3, .ref q4, .ref q5, .ref q6, .ref q7, .ref q8, .int 0, .int 0, .int 0, .int 0, .int 0])), (q3, .inl (g.2.1 1, 128, .inl f)), (q4, .inl (g.2.1 1, 2187, .inl f18))]) X hW 2 rfl (vp_in_nI hix (by decide)) ef18 rfl dX7_init_161 (fun H locs hW => ?_)
                      refine lv_iinc (v := nI (o + 1)) (lv' := [(2, .int (nI (o + 1))), (0, .ref h0), (1, .int (nI k))]) (pc := 162) hx hb dX7_init_162 hl (k := 2) rfl (nI_1 o) (by decide) rfl (fun ls hl => ?_)
                      refine lv_goto (tgt := 124) (pc := 165) hx hb dX7_init_165 rfl ?_
                      exact ih3 (o + 1) f18 (by omega) (by omega) _ _ _ hW (lv_sub hl [1, 2, 0] rfl)
              exact loop3 200 0 sf (by decide) (by decide) _ _ _ hW (lv_sub hl [1, 2, 0] rfl)
        exact loop2 200 0 (fun _ => 0) (by decide) (by decide) _ _ _ hW (lv_sub hl [1, 0] rfl)
      · have hlt : i < 128 := ge_f (by omega) (by decide) c9
        refine lv_aload_n (pc := 87) hx hb dX7_init_87 rfl (lv_at hl 0 rfl) ?_
        refine r_get X hW 0 ciX7 6 rfl (by decide) m_119 rfl rfl dX7_init_88 ?_
        refine lv_iload_n (pc := 91) hx hb dX7_init_91 rfl (lv_at hl 1 rfl) ?_
        refine lv_iload_n (pc := 92) hx hb dX7_init_92 rfl (lv_at hl 1 rfl) ?_
        refine lv_iconst (v := 2) (pc := 93) hx hb dX7_init_93 (by decide) ?_
        refine lv_irem (pc := 94) hx hb dX7_init_94 (by decide) ?_
        refine lv_topi (fun v19 ev19 => ?_)
        obtain rfl : v19 = nI (i % 2) := ev19.trans (pk_rem (by omega) (by decide) (by decide))
        refine lv_iconst (v := 3) (pc := 95) hx hb dX7_init_95 (by decide) ?_
        refine lv_aload_n (pc := 96) hx hb dX7_init_96 rfl (lv_at hl 0 rfl) ?_
        refine r_get X hW 0 ciX7 6 rfl (by decide) m_119 rfl rfl dX7_init_97 ?_
        refine lv_iload_n (pc := 100) hx hb dX7_init_100 rfl (lv_at hl 1 rfl) ?_
        refine lv_iconst (v := 2) (pc := 101) hx hb dX7_init_101 (by decide) ?_
        refine lv_idiv (pc := 102) hx hb dX7_init_102 (by decide) ?_
        refine lv_topi (fun v20 ev20 => ?_)
        obtain rfl : v20 = nI (i / 2) := ev20.trans (pk_div (by omega) (by decide) (by decide))
        refine r_iald X hW 1 rfl (vp_in_nI (by omega) (by decide)) dX7_init_103 ?_
        refine lv_topi (fun v21 ev21 => ?_)
        obtain rfl : v21 = nI (pw3 7 (i / 2)) := ev21.trans (by rw [nI_clamp (by omega)]; exact hf _ (by omega))
        refine lv_imul (pc := 104) hx hb dX7_init_104 ?_
        refine lv_topi (fun v22 ev22 => ?_)
        obtain rfl : v22 = nI (3 * pw3 7 (i / 2)) := ev22.trans (pk_mul 3 _)
        refine lv_iadd (pc := 105) hx hb dX7_init_105 ?_
        refine lv_topi (fun v23 ev23 => ?_)
        obtain rfl : v23 = nI (pw3 7 i) := ev23.trans ((nI_add _ _).trans (by rw [← pw3_step i hlt]))
        obtain ⟨f24, ef24⟩ : ∃ f9 : Nat → Int32, upd f (nI i).toNatClampNeg (nI (pw3 7 i)) = f9 := ⟨_, rfl⟩
        refine r_iast (ws' := [(h0, .inr (7, [.ref q1, .int 0, .int 0, .int 0, .int 0, .ref q2, .ref q3, .ref q4, .ref q5, .ref q6, .ref q7, .ref q8, .int 0, .int 0, .int 0, .int 0, .int 0])), (q3, .inl (g.2.1 1, 128, .inl f24)), (q4, .inl (g.2.1 1, 2187, .inl (fun _ => 0)))]) X hW 1 rfl (vp_in_nI hlt (by decide)) ef24 rfl dX7_init_106 (fun H locs hW => ?_)
        have hf2 : ∀ j, j < i + 1 → f24 j = nI (pw3 7 j) := fun j hj => by
          rw [upd_at (by omega) ef24 j]
          by_cases h : j = i
          · rw [if_pos h, h]
          · rw [if_neg h]; exact hf j (by omega)
        refine lv_iinc (v := nI (i + 1)) (lv' := [(1, .int (nI (i + 1))), (0, .ref h0)]) (pc := 107) hx hb dX7_init_107 hl (k := 1) rfl (nI_1 i) (by decide) rfl (fun ls hl => ?_)
        refine lv_goto (tgt := 80) (pc := 110) hx hb dX7_init_110 rfl ?_
        exact ih1 (i + 1) f24 (by omega) (by omega) (by omega) hf2 _ _ _ hW (lv_sub hl [1, 0] rfl)
  exact loop1 200 1 (fun _ => 0) (by decide) (by decide) (by decide) (fun j hj => by obtain rfl : j = 0 := (by omega); rfl) _ _ _ hW (lv_sub hl [1, 0] rfl)

set_option maxHeartbeats 4000000 in
set_option maxRecDepth 100000 in
theorem C_X11_init (l : Launch) (g : GG) (h0 : Nat) : MetV l g yX11_init cX11_init 1 none 3 48 20737 [.ref h0] [(h0, .inr (11, [.null, .null, .null, .null, .null, .null, .null, .null, .null, .null, .null, .int 0, .int 0, .int 0]))] (fun u => ∃ q1 q3 q4 q5 q6 q7 q8 q9 q10 q11 q14 q2 q12 q13 q15 q16 q17 q18 q19 q20 q21 q22 q23 q24 q25 q26 : Nat, u = [(h0, .inr (11, [.ref q1, .ref q3, .ref q4, .ref q5, .ref q6, .ref q7, .ref q8, .ref q9, .ref q10, .ref q11, .ref q14, .int 0, .int 0, .int 0])), (q1, .inr (8, [.ref q2, .int 0, .int 0])), (q11, .inr (2, [.ref q12, .ref q13])), (q12, .inl (g.2.1 2, 5, .inr (.inl (fun _ => 0)))), (q13, .inl (g.2.1 2, 5, .inr (.inl (fun _ => 0)))), (q14, .inr (10, [.int 0, .int 0, .int 0, .ref q15, .ref q16, .ref q17, .ref q18, .ref q19, .ref q20, .ref q21, .ref q22, .ref q23, .ref q24, .ref q25, .int (-2), .ref q26])), (q15, .inl (g.2.1 1, 4, .inl (fun _ => 0))), (q16, .inl (g.2.1 1, 4, .inl (fun _ => 0))), (q17, .inl (g.2.1 1, 4, .inl (fun _ => 0)))]) := by
  refine MetV.of (own := RX11) rfl (by decide) (Nat.le_of_ble_eq_true rfl) ?_
  intro p e s m below meth c A ls args Q hQ X hr hin hW hl
  have hx := X.1
  have hb := X.2.1
  have hl : lv_has ls 1 [(0, .ref h0)] := hl
  refine lv_aload_n (pc := 0) hx hb dX11_init_0 rfl (lv_at hl 0 rfl) ?_
  refine W.objInit hx hb X.2.2.2.1 (X.2.2.2.2.1 _ m_27) (X.2.2.2.2.1 _ m_28) (X.2.2.2.2.1 _ m_29) rfl (by rw [X.2.2.1]; exact hl.1) rfl dX11_init_1 (Nat.le_of_ble_eq_true rfl) (Nat.le_of_ble_eq_true rfl) ?_
  refine W.eq (g2 := F0 m 4 ls []) rfl ?_
  refine lv_aload_n (pc := 4) hx hb dX11_init_4 rfl (lv_at hl 0 rfl) ?_
  refine r_new (fs := [.null, .int 0, .int 0]) X hW ciX8 m_30 m_31 m_2 (by decide +kernel) ⟨Nat.le_of_ble_eq_true rfl, Nat.le_of_ble_eq_true rfl⟩ dX11_init_5 (fun q1 H hW => ?_)
  have hW : WD g A s _ _ [(h0, .inr (11, [.null, .null, .null, .null, .null, .null, .null, .null, .null, .null, .null, .int 0, .int 0, .int 0])), (q1, .inr (8, [.null, .int 0, .int 0]))] := hW
  refine lv_dup (pc := 8) hx hb dX11_init_8 rfl ?_
  refine c_INv (pc := 9) (As := []) (rest := [.ref q1, .ref h0]) (wr := [(h0, .inr (11, [.null, .null, .null, .null, .null, .null, .null, .null, .null, .null, .null, .int 0, .int 0, .int 0]))]) X hW (C_X8_init l g q1) vX11_9 [1] [0] rfl rfl rfl rfl rfl rfl hl.1 rfl (Nat.le_of_ble_eq_true rfl) ⟨Nat.le_of_ble_eq_true rfl, Nat.le_of_ble_eq_true rfl⟩ ⟨Nat.le_of_ble_eq_true rfl, Nat.le_of_ble_eq_true rfl⟩ dX11_init_9 (fun u9 H locs hq hW => ?_)
  obtain ⟨q2, rfl⟩ := hq
  have hW : WD g A s _ _ [(h0, .inr (11, [.null, .null, .null, .null, .null, .null, .null, .null, .null, .null, .null, .int 0, .int 0, .int 0])), (q1, .inr (8, [.ref q2, .int 0, .int 0]))] := hW
  refine r_putF (ws' := [(h0, .inr (11, [.ref q1, .null, .null, .null, .null, .null, .null, .null, .null, .null, .null, .int 0, .int 0, .int 0])), (q1, .inr (8, [.ref q2, .int 0, .int 0]))]) X hin hW 0 ciX11 0 rfl (by decide) m_353 rfl rfl rfl rfl rfl (Nat.le_of_ble_eq_true rfl) rfl dX11_init_12 (fun H locs hW => ?_)
  refine lv_aload_n (pc := 15) hx hb dX11_init_15 rfl (lv_at hl 0 rfl) ?_
  refine lv_bipush (v := 10) (pc := 16) hx hb dX11_init_16 (by decide) ?_
  refine r_newq (N := 10) X hW m_48 (fun h => h.2.2.1) 4 rfl (by decide) (by decide) (Nat.le_of_ble_eq_true rfl) ⟨Nat.le_of_ble_eq_true rfl, Nat.le_of_ble_eq_true rfl⟩ dX11_init_18 (fun q3 H hW => ?_)
  have hW : WD g A s _ _ [(h0, .inr (11, [.ref q1, .null, .null, .null, .null, .null, .null, .null, .null, .null, .null, .int 0, .int 0, .int 0])), (q1, .inr (8, [.ref q2, .int 0, .int 0]))] := hW.pick [0, 1] rfl rfl
  refine r_putF (ws' := [(h0, .inr (11, [.ref q1, .ref q3, .null, .null, .null, .null, .null, .null, .null, .null, .null, .int 0, .int 0, .int 0])), (q1, .inr (8, [.ref q2, .int 0, .int 0]))]) X hin hW 0 ciX11 1 rfl (by decide) m_354 rfl rfl rfl rfl rfl (Nat.le_of_ble_eq_true rfl) rfl dX11_init_21 (fun H locs hW => ?_)
  refine lv_aload_n (pc := 24) hx hb dX11_init_24 rfl (lv_at hl 0 rfl) ?_
  refine lv_bipush (v := 12) (pc := 25) hx hb dX11_init_25 (by decide) ?_
  refine r_newq (N := 12) X hW m_50 (fun h => h.2.2.2) 5 rfl (by decide) (by decide) (Nat.le_of_ble_eq_true rfl) ⟨Nat.le_of_ble_eq_true rfl, Nat.le_of_ble_eq_true rfl⟩ dX11_init_27 (fun q4 H hW => ?_)
  have hW : WD g A s _ _ [(h0, .inr (11, [.ref q1, .ref q3, .null, .null, .null, .null, .null, .null, .null, .null, .null, .int 0, .int 0, .int 0])), (q1, .inr (8, [.ref q2, .int 0, .int 0]))] := hW.pick [0, 1] rfl rfl
  refine r_putF (ws' := [(h0, .inr (11, [.ref q1, .ref q3, .ref q4, .null, .null, .null, .null, .null, .null, .null, .null, .int 0, .int 0, .int 0])), (q1, .inr (8, [.ref q2, .int 0, .int 0]))]) X hin hW 0 ciX11 2 rfl (by decide) m_355 rfl rfl rfl rfl rfl (Nat.le_of_ble_eq_true rfl) rfl dX11_init_30 (fun H locs hW => ?_)
  refine lv_aload_n (pc := 33) hx hb dX11_init_33 rfl (lv_at hl 0 rfl) ?_
  refine r_new (fs := [.null, .null, .int 0, .long 0, .long 0]) X hW ciX1 m_52 m_53 m_3 (by decide +kernel) ⟨Nat.le_of_ble_eq_true rfl, Nat.le_of_ble_eq_true rfl⟩ dX11_init_34 (fun q5 H hW => ?_)
  have hW : WD g A s _ _ [(h0, .inr (11, [.ref q1, .ref q3, .ref q4, .null, .null, .null, .null, .null, .null, .null, .null, .int 0, .int 0, .int 0])), (q1, .inr (8, [.ref q2, .int 0, .int 0])), (q5, .inr (1, [.null, .null, .int 0, .long 0, .long 0]))] := hW
  refine lv_dup (pc := 37) hx hb dX11_init_37 rfl ?_
  refine c_INv (pc := 38) (As := []) (rest := [.ref q5, .ref h0]) (wr := [(h0, .inr (11, [.ref q1, .ref q3, .ref q4, .null, .null, .null, .null, .null, .null, .null, .null, .int 0, .int 0, .int 0])), (q1, .inr (8, [.ref q2, .int 0, .int 0]))]) X hW (C_X1_init l g q5) vX11_30 [2] [0, 1] rfl rfl rfl rfl rfl rfl hl.1 rfl (Nat.le_of_ble_eq_true rfl) ⟨Nat.le_of_ble_eq_true rfl, Nat.le_of_ble_eq_true rfl⟩ ⟨Nat.le_of_ble_eq_true rfl, Nat.le_of_ble_eq_true rfl⟩ dX11_init_38 (fun u9 H locs hq hW => ?_)
  obtain rfl := hq
  have hW : WD g A s _ _ [(h0, .inr (11, [.ref q1, .ref q3, .ref q4, .null, .null, .null, .null, .null, .null, .null, .null, .int 0, .int 0, .int 0])), (q1, .inr (8, [.ref q2, .int 0, .int 0]))] := hW
  refine r_putF (ws' := [(h0, .inr (11, [.ref q1, .ref q3, .ref q4, .ref q5, .null, .null, .null, .null, .null, .null, .null, .int 0, .int 0, .int 0])), (q1, .inr (8, [.ref q2, .int 0, .int 0]))]) X hin hW 0 ciX11 3 rfl (by decide) m_356 rfl rfl rfl rfl rfl (Nat.le_of_ble_eq_true rfl) rfl dX11_init_41 (fun H locs hW => ?_)
  refine lv_aload_n (pc := 44) hx hb dX11_init_44 rfl (lv_at hl 0 rfl) ?_
  refine r_new (fs := [.null, .int 0, .int 0, .int 0, .int 0, .null, .null, .null, .null, .null, .null, .null, .int 0, .int 0, .int 0, .int 0, .int 0]) X hW ciX7 m_75 m_76 m_4 (by decide +kernel) ⟨Nat.le_of_ble_eq_true rfl, Nat.le_of_ble_eq_true rfl⟩ dX11_init_45 (fun q6 H hW => ?_)
  have hW : WD g A s _ _ [(h0, .inr (11, [.ref q1, .ref q3, .ref q4, .ref q5, .null, .null, .null, .null, .null, .null, .null, .int 0, .int 0, .int 0])), (q1, .inr (8, [.ref q2, .int 0, .int 0])), (q6, .inr (7, [.null, .int 0, .int 0, .int 0, .int 0, .null, .null, .null, .null, .null, .null, .null, .int 0, .int 0, .int 0, .int 0, .int 0]))] := hW
  refine lv_dup (pc := 48) hx hb dX11_init_48 rfl ?_
  refine c_Iv (pc := 49) (As := []) (rest := [.ref q6, .ref h0]) (wr := [(h0, .inr (11, [.ref q1, .ref q3, .ref q4, .ref q5, .null, .null, .null, .null, .null, .null, .null, .int 0, .int 0, .int 0])), (q1, .inr (8, [.ref q2, .int 0, .int 0]))]) X hW (C_X7_init l g q6) vX11_37 [2] [0, 1] rfl rfl rfl rfl rfl rfl hl.1 rfl (Nat.le_of_ble_eq_true rfl) ⟨Nat.le_of_ble_eq_true rfl, Nat.le_of_ble_eq_true rfl⟩ ⟨Nat.le_of_ble_eq_true rfl, Nat.le_of_ble_eq_true rfl⟩ dX11_init_49 (fun u9 H locs hq hW => ?_)
  obtain rfl := hq
  have hW : WD g A s _ _ [(h0, .inr (11, [.ref q1, .ref q3, .ref q4, .ref q5, .null, .null, .null, .null, .null, .null, .null, .int 0, .int 0, .int 0])), (q1, .inr (8, [.ref q2, .int 0, .int 0]))] := hW
  refine r_putF (ws' := [(h0, .inr (11, [.ref q1, .ref q3, .ref q4, .ref q5, .ref q6, .null, .null, .null, .null, .null, .null, .int 0, .int 0, .int 0])), (q1, .inr (8, [.ref q2, .int 0, .int 0]))]) X hin hW 0 ciX11 4 rfl (by decide) m_357 rfl rfl rfl rfl rfl (Nat.le_of_ble_eq_true rfl) rfl dX11_init_52 (fun H locs hW => ?_)
  refine lv_aload_n (pc := 55) hx hb dX11_init_55 rfl (lv_at hl 0 rfl) ?_
  refine r_new (fs := [.null, .int 0, .int 0, .int 0, .int 0]) X hW ciX6 m_168 m_169 m_6 (by decide +kernel) ⟨Nat.le_of_ble_eq_true rfl, Nat.le_of_ble_eq_true rfl⟩ dX11_init_56 (fun q7 H hW => ?_)
  have hW : WD g A s _ _ [(h0, .inr (11, [.ref q1, .ref q3, .ref q4, .ref q5, .ref q6, .null, .null, .null, .null, .null, .null, .int 0, .int 0, .int 0])), (q1, .inr (8, [.ref q2, .int 0, .int 0])), (q7, .inr (6, [.null, .int 0, .int 0, .int 0, .int 0]))] := hW
  refine lv_dup (pc := 59) hx hb dX11_init_59 rfl ?_
  refine c_INv (pc := 60) (As := []) (rest := [.ref q7, .ref h0]) (wr := [(h0, .inr (11, [.ref q1, .ref q3, .ref q4, .ref q5, .ref q6, .null, .null, .null, .null, .null, .null, .int 0, .int 0, .int 0])), (q1, .inr (8, [.ref q2, .int 0, .int 0]))]) X hW (C_X6_init l g q7) vX11_44 [2] [0, 1] rfl rfl rfl rfl rfl rfl hl.1 rfl (Nat.le_of_ble_eq_true rfl) ⟨Nat.le_of_ble_eq_true rfl, Nat.le_of_ble_eq_true rfl⟩ ⟨Nat.le_of_ble_eq_true rfl, Nat.le_of_ble_eq_true rfl⟩ dX11_init_60 (fun u9 H locs hq hW => ?_)
  obtain rfl := hq
  have hW : WD g A s _ _ [(h0, .inr (11, [.ref q1, .ref q3, .ref q4, .ref q5, .ref q6, .null, .null, .null, .null, .null, .null, .int 0, .int 0, .int 0])), (q1, .inr (8, [.ref q2, .int 0, .int 0]))] := hW
  refine r_putF (ws' := [(h0, .inr (11, [.ref q1, .ref q3, .ref q4, .ref q5, .ref q6, .ref q7, .null, .null, .null, .null, .null, .int 0, .int 0, .int 0])), (q1, .inr (8, [.ref q2, .int 0, .int 0]))]) X hin hW 0 ciX11 5 rfl (by decide) m_358 rfl rfl rfl rfl rfl (Nat.le_of_ble_eq_true rfl) rfl dX11_init_63 (fun H locs hW => ?_)
  refine lv_aload_n (pc := 66) hx hb dX11_init_66 rfl (lv_at hl 0 rfl) ?_
  refine r_new (fs := [.null, .int 0, .null]) X hW ciX3 m_190 m_191 m_7 (by decide +kernel) ⟨Nat.le_of_ble_eq_true rfl, Nat.le_of_ble_eq_true rfl⟩ dX11_init_67 (fun q8 H hW => ?_)
  have hW : WD g A s _ _ [(h0, .inr (11, [.ref q1, .ref q3, .ref q4, .ref q5, .ref q6, .ref q7, .null, .null, .null, .null, .null, .int 0, .int 0, .int 0])), (q1, .inr (8, [.ref q2, .int 0, .int 0])), (q8, .inr (3, [.null, .int 0, .null]))] := hW
  refine lv_dup (pc := 70) hx hb dX11_init_70 rfl ?_
  refine c_INv (pc := 71) (As := []) (rest := [.ref q8, .ref h0]) (wr := [(h0, .inr (11, [.ref q1, .ref q3, .ref q4, .ref q5, .ref q6, .ref q7, .null, .null, .null, .null, .null, .int 0, .int 0, .int 0])), (q1, .inr (8, [.ref q2, .int 0, .int 0]))]) X hW (C_X3_init l g q8) vX11_51 [2] [0, 1] rfl rfl rfl rfl rfl rfl hl.1 rfl (Nat.le_of_ble_eq_true rfl) ⟨Nat.le_of_ble_eq_true rfl, Nat.le_of_ble_eq_true rfl⟩ ⟨Nat.le_of_ble_eq_true rfl, Nat.le_of_ble_eq_true rfl⟩ dX11_init_71 (fun u9 H locs hq hW => ?_)
  obtain rfl := hq
  have hW : WD g A s _ _ [(h0, .inr (11, [.ref q1, .ref q3, .ref q4, .ref q5, .ref q6, .ref q7, .null, .null, .null, .null, .null, .int 0, .int 0, .int 0])), (q1, .inr (8, [.ref q2, .int 0, .int 0]))] := hW
  refine r_putF (ws' := [(h0, .inr (11, [.ref q1, .ref q3, .ref q4, .ref q5, .ref q6, .ref q7, .ref q8, .null, .null, .null, .null, .int 0, .int 0, .int 0])), (q1, .inr (8, [.ref q2, .int 0, .int 0]))]) X hin hW 0 ciX11 6 rfl (by decide) m_359 rfl rfl rfl rfl rfl (Nat.le_of_ble_eq_true rfl) rfl dX11_init_74 (fun H locs hW => ?_)
  refine lv_aload_n (pc := 77) hx hb dX11_init_77 rfl (lv_at hl 0 rfl) ?_
  refine r_new (fs := [.null, .null, .null]) X hW ciX9 m_206 m_207 m_8 (by decide +kernel) ⟨Nat.le_of_ble_eq_true rfl, Nat.le_of_ble_eq_true rfl⟩ dX11_init_78 (fun q9 H hW => ?_)
  have hW : WD g A s _ _ [(h0, .inr (11, [.ref q1, .ref q3, .ref q4, .ref q5, .ref q6, .ref q7, .ref q8, .null, .null, .null, .null, .int 0, .int 0, .int 0])), (q1, .inr (8, [.ref q2, .int 0, .int 0])), (q9, .inr (9, [.null, .null, .null]))] := hW
  refine lv_dup (pc := 81) hx hb dX11_init_81 rfl ?_
  refine c_INv (pc := 82) (As := []) (rest := [.ref q9, .ref h0]) (wr := [(h0, .inr (11, [.ref q1, .ref q3, .ref q4, .ref q5, .ref q6, .ref q7, .ref q8, .null, .null, .null, .null, .int 0, .int 0, .int 0])), (q1, .inr (8, [.ref q2, .int 0, .int 0]))]) X hW (C_X9_init l g q9) vX11_58 [2] [0, 1] rfl rfl rfl rfl rfl rfl hl.1 rfl (Nat.le_of_ble_eq_true rfl) ⟨Nat.le_of_ble_eq_true rfl, Nat.le_of_ble_eq_true rfl⟩ ⟨Nat.le_of_ble_eq_true rfl, Nat.le_of_ble_eq_true rfl⟩ dX11_init_82 (fun u9 H locs hq hW => ?_)
  obtain rfl := hq
  have hW : WD g A s _ _ [(h0, .inr (11, [.ref q1, .ref q3, .ref q4, .ref q5, .ref q6, .ref q7, .ref q8, .null, .null, .null, .null, .int 0, .int 0, .int 0])), (q1, .inr (8, [.ref q2, .int 0, .int 0]))] := hW
  refine r_putF (ws' := [(h0, .inr (11, [.ref q1, .ref q3, .ref q4, .ref q5, .ref q6, .ref q7, .ref q8, .ref q9, .null, .null, .null, .int 0, .int 0, .int 0])), (q1, .inr (8, [.ref q2, .int 0, .int 0]))]) X hin hW 0 ciX11 7 rfl (by decide) m_360 rfl rfl rfl rfl rfl (Nat.le_of_ble_eq_true rfl) rfl dX11_init_85 (fun H locs hW => ?_)
  refine lv_aload_n (pc := 88) hx hb dX11_init_88 rfl (lv_at hl 0 rfl) ?_
  refine r_new (fs := [.null, .int 0, .int 0, .null, .null, .null, .null]) X hW ciX0 m_224 m_225 m_9 (by decide +kernel) ⟨Nat.le_of_ble_eq_true rfl, Nat.le_of_ble_eq_true rfl⟩ dX11_init_89 (fun q10 H hW => ?_)
  have hW : WD g A s _ _ [(h0, .inr (11, [.ref q1, .ref q3, .ref q4, .ref q5, .ref q6, .ref q7, .ref q8, .ref q9, .null, .null, .null, .int 0, .int 0, .int 0])), (q1, .inr (8, [.ref q2, .int 0, .int 0])), (q10, .inr (0, [.null, .int 0, .int 0, .null, .null, .null, .null]))] := hW
  refine lv_dup (pc := 92) hx hb dX11_init_92 rfl ?_
  refine c_INv (pc := 93) (As := []) (rest := [.ref q10, .ref h0]) (wr := [(h0, .inr (11, [.ref q1, .ref q3, .ref q4, .ref q5, .ref q6, .ref q7, .ref q8, .ref q9, .null, .null, .null, .int 0, .int 0, .int 0])), (q1, .inr (8, [.ref q2, .int 0, .int 0]))]) X hW (C_X0_init l g q10) vX11_65 [2] [0, 1] rfl rfl rfl rfl rfl rfl hl.1 rfl (Nat.le_of_ble_eq_true rfl) ⟨Nat.le_of_ble_eq_true rfl, Nat.le_of_ble_eq_true rfl⟩ ⟨Nat.le_of_ble_eq_true rfl, Nat.le_of_ble_eq_true rfl⟩ dX11_init_93 (fun u9 H locs hq hW => ?_)
  obtain rfl := hq
  have hW : WD g A s _ _ [(h0, .inr (11, [.ref q1, .ref q3, .ref q4, .ref q5, .ref q6, .ref q7, .ref q8, .ref q9, .null, .null, .null, .int 0, .int 0, .int 0])), (q1, .inr (8, [.ref q2, .int 0, .int 0]))] := hW
  refine r_putF (ws' := [(h0, .inr (11, [.ref q1, .ref q3, .ref q4, .ref q5, .ref q6, .ref q7, .ref q8, .ref q9, .ref q10, .null, .null, .int 0, .int 0, .int 0])), (q1, .inr (8, [.ref q2, .int 0, .int 0]))]) X hin hW 0 ciX11 8 rfl (by decide) m_361 rfl rfl rfl rfl rfl (Nat.le_of_ble_eq_true rfl) rfl dX11_init_96 (fun H locs hW => ?_)
  refine lv_aload_n (pc := 99) hx hb dX11_init_99 rfl (lv_at hl 0 rfl) ?_
  refine r_new (fs := [.null, .null]) X hW ciX2 m_253 m_254 m_10 (by decide +kernel) ⟨Nat.le_of_ble_eq_true rfl, Nat.le_of_ble_eq_true rfl⟩ dX11_init_100 (fun q11 H hW => ?_)
  have hW : WD g A s _ _ [(h0, .inr (11, [.ref q1, .ref q3, .ref q4, .ref q5, .ref q6, .ref q7, .ref q8, .ref q9, .ref q10, .null, .null, .int 0, .int 0, .int 0])), (q1, .inr (8, [.ref q2, .int 0, .int 0])), (q11, .inr (2, [.null, .null]))] := hW
  refine lv_dup (pc := 103) hx hb dX11_init_103 rfl ?_
  refine c_INv (pc := 104) (As := []) (rest := [.ref q11, .ref h0]) (wr := [(h0, .inr (11, [.ref q1, .ref q3, .ref q4, .ref q5, .ref q6, .ref q7, .ref q8, .ref q9, .ref q10, .null, .null, .int 0, .int 0, .int 0])), (q1, .inr (8, [.ref q2, .int 0, .int 0]))]) X hW (C_X2_init l g q11) vX11_72 [2] [0, 1] rfl rfl rfl rfl rfl rfl hl.1 rfl (Nat.le_of_ble_eq_true rfl) ⟨Nat.le_of_ble_eq_true rfl, Nat.le_of_ble_eq_true rfl⟩ ⟨Nat.le_of_ble_eq_true rfl, Nat.le_of_ble_eq_true rfl⟩ dX11_init_104 (fun u9 H locs hq hW => ?_)
  obtain ⟨q12, q13, rfl⟩ := hq
  have hW : WD g A s _ _ [(h0, .inr (11, [.ref q1, .ref q3, .ref q4, .ref q5, .ref q6, .ref q7, .ref q8, .ref q9, .ref q10, .null, .null, .int 0, .int 0, .int 0])), (q1, .inr (8, [.ref q2, .int 0, .int 0])), (q11, .inr (2, [.ref q12, .ref q13])), (q12, .inl (g.2.1 2, 5, .inr (.inl (fun _ => 0)))), (q13, .inl (g.2.1 2, 5, .inr (.inl (fun _ => 0))))] := hW
  refine r_putF (ws' := [(h0, .inr (11, [.ref q1, .ref q3, .ref q4, .ref q5, .ref q6, .ref q7, .ref q8, .ref q9, .ref q10, .ref q11, .null, .int 0, .int 0, .int 0])), (q1, .inr (8, [.ref q2, .int 0, .int 0])), (q11, .inr (2, [.ref q12, .ref q13])), (q12, .inl (g.2.1 2, 5, .inr (.inl (fun _ => 0)))), (q13, .inl (g.2.1 2, 5, .inr (.inl (fun _ => 0))))]) X hin hW 0 ciX11 9 rfl (by decide) m_362 rfl rfl rfl rfl rfl (Nat.le_of_ble_eq_true rfl) rfl dX11_init_107 (fun H locs hW => ?_)
  refine lv_aload_n (pc := 110) hx hb dX11_init_110 rfl (lv_at hl 0 rfl) ?_
  refine r_new (fs := [.int 0, .int 0, .int 0, .null, .null, .null, .null, .null, .null, .null, .null, .null, .null, .null, .int 0, .null]) X hW ciX10 m_48 m_267 m_11 (by decide +kernel) ⟨Nat.le_of_ble_eq_true rfl, Nat.le_of_ble_eq_true rfl⟩ dX11_init_111 (fun q14 H hW => ?_)
  have hW : WD g A s _ _ [(h0, .inr (11, [.ref q1, .ref q3, .ref q4, .ref q5, .ref q6, .ref q7, .ref q8, .ref q9, .ref q10, .ref q11, .null, .int 0, .int 0, .int 0])), (q1, .inr (8, [.ref q2, .int 0, .int 0])), (q11, .inr (2, [.ref q12, .ref q13])), (q12, .inl (g.2.1 2, 5, .inr (.inl (fun _ => 0)))), (q13, .inl (g.2.1 2, 5, .inr (.inl (fun _ => 0)))), (q14, .inr (10, [.int 0, .int 0, .int 0, .null, .null, .null, .null, .null, .null, .null, .null, .null, .null, .null, .int 0, .null]))] := hW
  refine lv_dup (pc := 114) hx hb dX11_init_114 rfl ?_
  refine c_INv (pc := 115) (As := []) (rest := [.ref q14, .ref h0]) (wr := [(h0, .inr (11, [.ref q1, .ref q3, .ref q4, .ref q5, .ref q6, .ref q7, .ref q8, .ref q9, .ref q10, .ref q11, .null, .int 0, .int 0, .int 0])), (q1, .inr (8, [.ref q2, .int 0, .int 0])), (q11, .inr (2, [.ref q12, .ref q13])), (q12, .inl (g.2.1 2, 5, .inr (.inl (fun _ => 0)))), (q13, .inl (g.2.1 2, 5, .inr (.inl (fun _ => 0))))]) X hW (C_X10_init l g q14) vX11_77 [5] [0, 1, 2, 3, 4] rfl rfl rfl rfl rfl rfl hl.1 rfl (Nat.le_of_ble_eq_true rfl) ⟨Nat.le_of_ble_eq_true rfl, Nat.le_of_ble_eq_true rfl⟩ ⟨Nat.le_of_ble_eq_true rfl, Nat.le_of_ble_eq_true rfl⟩ dX11_init_115 (fun u9 H locs hq hW => ?_)
  obtain ⟨q15, q16, q17, q18, q19, q20, q21, q22, q23, q24, q25, q26, rfl⟩ := hq
  have hW : WD g A s _ _ [(h0, .inr (11, [.ref q1, .ref q3, .ref q4, .ref q5, .ref q6, .ref q7, .ref q8, .ref q9, .ref q10, .ref q11, .null, .int 0, .int 0, .int 0])), (q1, .inr (8, [.ref q2, .int 0, .int 0])), (q11, .inr (2, [.ref q12, .ref q13])), (q12, .inl (g.2.1 2, 5, .inr (.inl (fun _ => 0)))), (q13, .inl (g.2.1 2, 5, .inr (.inl (fun _ => 0)))), (q14, .inr (10, [.int 0, .int 0, .int 0, .ref q15, .ref q16, .ref q17, .ref q18, .ref q19, .ref q20, .ref q21, .ref q22, .ref q23, .ref q24, .ref q25, .int (-2), .ref q26])), (q15, .inl (g.2.1 1, 4, .inl (fun _ => 0))), (q16, .inl (g.2.1 1, 4, .inl (fun _ => 0))), (q17, .inl (g.2.1 1, 4, .inl (fun _ => 0)))] := hW
  refine r_put (ws' := [(h0, .inr (11, [.ref q1, .ref q3, .ref q4, .ref q5, .ref q6, .ref q7, .ref q8, .ref q9, .ref q10, .ref q11, .ref q14, .int 0, .int 0, .int 0])), (q1, .inr (8, [.ref q2, .int 0, .int 0])), (q11, .inr (2, [.ref q12, .ref q13])), (q12, .inl (g.2.1 2, 5, .inr (.inl (fun _ => 0)))), (q13, .inl (g.2.1 2, 5, .inr (.inl (fun _ => 0)))), (q14, .inr (10, [.int 0, .int 0, .int 0, .ref q15, .ref q16, .ref q17, .ref q18, .ref q19, .ref q20, .ref q21, .ref q22, .ref q23, .ref q24, .ref q25, .int (-2), .ref q26])), (q15, .inl (g.2.1 1, 4, .inl (fun _ => 0))), (q16, .inl (g.2.1 1, 4, .inl (fun _ => 0))), (q17, .inl (g.2.1 1, 4, .inl (fun _ => 0)))]) X hW 0 ciX11 10 rfl (by decide) m_363 rfl rfl rfl rfl (Nat.le_of_ble_eq_true rfl) rfl dX11_init_118 (fun H locs hW => ?_)
  exact e_v X hQ hr hW (u := [(h0, .inr (11, [.ref q1, .ref q3, .ref q4, .ref q5, .ref q6, .ref q7, .ref q8, .ref q9, .ref q10, .ref q11, .ref q14, .int 0, .int 0, .int 0])), (q1, .inr (8, [.ref q2, .int 0, .int 0])), (q11, .inr (2, [.ref q12, .ref q13])), (q12, .inl (g.2.1 2, 5, .inr (.inl (fun _ => 0)))), (q13, .inl (g.2.1 2, 5, .inr (.inl (fun _ => 0)))), (q14, .inr (10, [.int 0, .int 0, .int 0, .ref q15, .ref q16, .ref q17, .ref q18, .ref q19, .ref q20, .ref q21, .ref q22, .ref q23, .ref q24, .ref q25, .int (-2), .ref q26])), (q15, .inl (g.2.1 1, 4, .inl (fun _ => 0))), (q16, .inl (g.2.1 1, 4, .inl (fun _ => 0))), (q17, .inl (g.2.1 1, 4, .inl (fun _ => 0)))]) [0, 1, 2, 3, 4, 5, 6, 7, 8] rfl rfl (⟨q1, q3, q4, q5, q6, q7, q8, q9, q10, q11, q14, q2, q12, q13, q15, q16, q17, q18, q19, q20, q21, q22, q23, q24, q25, q26, rfl⟩) ⟨Nat.le_of_ble_eq_true rfl, Nat.le_of_ble_eq_true rfl⟩ dX11_init_121

set_option maxHeartbeats 4000000 in
set_option maxRecDepth 100000 in
theorem C_X12_init (l : Launch) (g : GG) (h0 : Nat) : MetV l g yX12_init cX12_init 1 none 1 46 594642 [.ref h0] [(h0, .inr (12, [.int 0, .null, .int 0, .int 0, .int 0, .int 0, .null, .null, .null, .null, .null, .null, .null, .null, .null, .null, .null, .null, .int 0, .int 0, .int 0, .null, .null, .null, .null, .null, .null, .int 0, .null, .null, .null, .null, .null, .null, .null, .null, .null, .int 0, .int 0, .int 0, .int 0, .int 0, .int 0, .int 0, .int 0, .int 0, .null, .null, .null, .null, .null, .null, .null, .null, .null, .null, .null, .null, .null, .null, .null, .null, .null, .null]))] (fun u => ∃ q1 q2 q3 q4 q5 q6 q7 q8 q9 q10 q11 q12 q13 q14 q15 q16 q17 q18 q19 q20 q21 q22 q23 q24 q25 q26 q27 q28 q29 q30 q31 q32 q33 q34 q35 q36 q37 q38 q39 q40 q41 q42 q43 q44 q45 q46 : Nat, u = [(h0, .inr (12, [.int 0, .ref q1, .int 0, .int 0, .int 0, .int 0, .ref q2, .ref q3, .ref q4, .ref q5, .ref q6, .ref q7, .ref q8, .ref q9, .ref q10, .ref q11, .ref q12, .ref q13, .int 0, .int (-1), .int (-1), .ref q14, .ref q15, .ref q16, .ref q17, .ref q18, .ref q19, .int 0, .ref q20, .ref q21, .ref q22, .ref q23, .ref q24, .ref q25, .ref q26, .ref q27, .ref q28, .int 0, .int 0, .int 0, .int 0, .int 0, .int 0, .int 0, .int 0, .int 0, .ref q29, .ref q30, .ref q31, .ref q32, .ref q33, .ref q34, .ref q35, .ref q36, .ref q37, .ref q38, .ref q39, .ref q40, .ref q41, .ref q42, .ref q43, .ref q44, .ref q45, .ref q46])), (q1, .inl (g.2.1 0, 400, .inl (fun _ => 0))), (q3, .inl (g.2.1 1, 11, .inl (fun _ => 0))), (q4, .inl (g.2.1 1, 11, .inl (fun _ => 0))), (q5, .inl (g.2.1 1, 44, .inl (fun _ => 0))), (q6, .inl (g.2.1 1, 44, .inl (fun _ => 0))), (q7, .inl (g.2.1 1, 44, .inl (fun _ => 0))), (q42, .inl (g.2.1 2, 16, .inr (.inl (fun _ => 0)))), (q43, .inl (g.2.1 2, 16, .inr (.inl (fun _ => 0))))]) := by
  refine MetV.of (own := RX12) rfl (by decide) (Nat.le_of_ble_eq_true rfl) ?_
  intro p e s m below meth c A ls args Q hQ X hr hin hW hl
  have hx := X.1
  have hb := X.2.1
  have hl : lv_has ls 1 [(0, .ref h0)] := hl
  refine lv_aload_n (pc := 0) hx hb dX12_init_0 rfl (lv_at hl 0 rfl) ?_
  refine W.objInit hx hb X.2.2.2.1 (X.2.2.2.2.1 _ m_1228) (X.2.2.2.2.1 _ m_28) (X.2.2.2.2.1 _ m_29) rfl (by rw [X.2.2.1]; exact hl.1) rfl dX12_init_1 (Nat.le_of_ble_eq_true rfl) (Nat.le_of_ble_eq_true rfl) ?_
  refine W.eq (g2 := F0 m 4 ls []) rfl ?_
  refine lv_aload_n (pc := 4) hx hb dX12_init_4 rfl (lv_at hl 0 rfl) ?_
  refine lv_sipush (v := 400) (pc := 5) hx hb dX12_init_5 (by decide) ?_
  refine r_newa (a0 := (400, .inl (fun _ => 0))) X hW .byte rfl m_1420 0 rfl (by intro C h; cases h) (fun _ => rfl) (by decide) (by decide) (Nat.le_of_ble_eq_true rfl) ⟨Nat.le_of_ble_eq_true rfl, Nat.le_of_ble_eq_true rfl⟩ dX12_init_8 (fun q1 H hW => ?_)
  have hW : WD g A s _ _ [(h0, .inr (12, [.int 0, .null, .int 0, .int 0, .int 0, .int 0, .null, .null, .null, .null, .null, .null, .null, .null, .null, .null, .null, .null, .int 0, .int 0, .int 0, .null, .null, .null, .null, .null, .null, .int 0, .null, .null, .null, .null, .null, .null, .null, .null, .null, .int 0, .int 0, .int 0, .int 0, .int 0, .int 0, .int 0, .int 0, .int 0, .null, .null, .null, .null, .null, .null, .null, .null, .null, .null, .null, .null, .null, .null, .null, .null, .null, .null])), (q1, .inl (g.2.1 0, 400, .inl (fun _ => 0)))] := hW
  refine r_putF (ws' := [(h0, .inr (12, [.int 0, .ref q1, .int 0, .int 0, .int 0, .int 0, .null, .null, .null, .null, .null, .null, .null, .null, .null, .null, .null, .null, .int 0, .int 0, .int 0, .null, .null, .null, .null, .null, .null, .int 0, .null, .null, .null, .null, .null, .null, .null, .null, .null, .int 0, .int 0, .int 0, .int 0, .int 0, .int 0, .int 0, .int 0, .int 0, .null, .null, .null, .null, .null, .null, .null, .null, .null, .null, .null, .null, .null, .null, .null, .null, .null, .null])), (q1, .inl (g.2.1 0, 400, .inl (fun _ => 0)))]) X hin hW 0 ciX12 1 rfl (by decide) m_1232 rfl rfl rfl rfl rfl (Nat.le_of_ble_eq_true rfl) rfl dX12_init_10 (fun H locs hW => ?_)
  refine lv_aload_n (pc := 13) hx hb dX12_init_13 rfl (lv_at hl 0 rfl) ?_
  refine lv_bipush (v := 11) (pc := 14) hx hb dX12_init_14 (by decide) ?_
  refine r_newa (a0 := (11, .inl (fun _ => 0))) X hW .int rfl m_47 1 rfl (by intro C h; cases h) (fun _ => rfl) (by decide) (by decide) (Nat.le_of_ble_eq_true rfl) ⟨Nat.le_of_ble_eq_true rfl, Nat.le_of_ble_eq_true rfl⟩ dX12_init_16 (fun q2 H hW => ?_)
  have hW : WD g A s _ _ [(h0, .inr (12, [.int 0, .ref q1, .int 0, .int 0, .int 0, .int 0, .null, .null, .null, .null, .null, .null, .null, .null, .null, .null, .null, .null, .int 0, .int 0, .int 0, .null, .null, .null, .null, .null, .null, .int 0, .null, .null, .null, .null, .null, .null, .null, .null, .null, .int 0, .int 0, .int 0, .int 0, .int 0, .int 0, .int 0, .int 0, .int 0, .null, .null, .null, .null, .null, .null, .null, .null, .null, .null, .null, .null, .null, .null, .null, .null, .null, .null])), (q1, .inl (g.2.1 0, 400, .inl (fun _ => 0)))] := hW.pick [0, 1] rfl rfl
  refine r_putF (ws' := [(h0, .inr (12, [.int 0, .ref q1, .int 0, .int 0, .int 0, .int 0, .ref q2, .null, .null, .null, .null, .null, .null, .null, .null, .null, .null, .null, .int 0, .int 0, .int 0, .null, .null, .null, .null, .null, .null, .int 0, .null, .null, .null, .null, .null, .null, .null, .null, .null, .int 0, .int 0, .int 0, .int 0, .int 0, .int 0, .int 0, .int 0, .int 0, .null, .null, .null, .null, .null, .null, .null, .null, .null, .null, .null, .null, .null, .null, .null, .null, .null, .null])), (q1, .inl (g.2.1 0, 400, .inl (fun _ => 0)))]) X hin hW 0 ciX12 6 rfl (by decide) m_1237 rfl rfl rfl rfl rfl (Nat.le_of_ble_eq_true rfl) rfl dX12_init_18 (fun H locs hW => ?_)
  refine lv_aload_n (pc := 21) hx hb dX12_init_21 rfl (lv_at hl 0 rfl) ?_
  refine lv_bipush (v := 11) (pc := 22) hx hb dX12_init_22 (by decide) ?_
  refine r_newa (a0 := (11, .inl (fun _ => 0))) X hW .int rfl m_47 1 rfl (by intro C h; cases h) (fun _ => rfl) (by decide) (by decide) (Nat.le_of_ble_eq_true rfl) ⟨Nat.le_of_ble_eq_true rfl, Nat.le_of_ble_eq_true rfl⟩ dX12_init_24 (fun q3 H hW => ?_)
  have hW : WD g A s _ _ [(h0, .inr (12, [.int 0, .ref q1, .int 0, .int 0, .int 0, .int 0, .ref q2, .null, .null, .null, .null, .null, .null, .null, .null, .null, .null, .null, .int 0, .int 0, .int 0, .null, .null, .null, .null, .null, .null, .int 0, .null, .null, .null, .null, .null, .null, .null, .null, .null, .int 0, .int 0, .int 0, .int 0, .int 0, .int 0, .int 0, .int 0, .int 0, .null, .null, .null, .null, .null, .null, .null, .null, .null, .null, .null, .null, .null, .null, .null, .null, .null, .null])), (q1, .inl (g.2.1 0, 400, .inl (fun _ => 0))), (q3, .inl (g.2.1 1, 11, .inl (fun _ => 0)))] := hW
  refine r_putF (ws' := [(h0, .inr (12, [.int 0, .ref q1, .int 0, .int 0, .int 0, .int 0, .ref q2, .ref q3, .null, .null, .null, .null, .null, .null, .null, .null, .null, .null, .int 0, .int 0, .int 0, .null, .null, .null, .null, .null, .null, .int 0, .null, .null, .null, .null, .null, .null, .null, .null, .null, .int 0, .int 0, .int 0, .int 0, .int 0, .int 0, .int 0, .int 0, .int 0, .null, .null, .null, .null, .null, .null, .null, .null, .null, .null, .null, .null, .null, .null, .null, .null, .null, .null])), (q1, .inl (g.2.1 0, 400, .inl (fun _ => 0))), (q3, .inl (g.2.1 1, 11, .inl (fun _ => 0)))]) X hin hW 0 ciX12 7 rfl (by decide) m_1238 rfl rfl rfl rfl rfl (Nat.le_of_ble_eq_true rfl) rfl dX12_init_26 (fun H locs hW => ?_)
  refine lv_aload_n (pc := 29) hx hb dX12_init_29 rfl (lv_at hl 0 rfl) ?_
  refine lv_bipush (v := 11) (pc := 30) hx hb dX12_init_30 (by decide) ?_
  refine r_newa (a0 := (11, .inl (fun _ => 0))) X hW .int rfl m_47 1 rfl (by intro C h; cases h) (fun _ => rfl) (by decide) (by decide) (Nat.le_of_ble_eq_true rfl) ⟨Nat.le_of_ble_eq_true rfl, Nat.le_of_ble_eq_true rfl⟩ dX12_init_32 (fun q4 H hW => ?_)
  have hW : WD g A s _ _ [(h0, .inr (12, [.int 0, .ref q1, .int 0, .int 0, .int 0, .int 0, .ref q2, .ref q3, .null, .null, .null, .null, .null, .null, .null, .null, .null, .null, .int 0, .int 0, .int 0, .null, .null, .null, .null, .null, .null, .int 0, .null, .null, .null, .null, .null, .null, .null, .null, .null, .int 0, .int 0, .int 0, .int 0, .int 0, .int 0, .int 0, .int 0, .int 0, .null, .null, .null, .null, .null, .null, .null, .null, .null, .null, .null, .null, .null, .null, .null, .null, .null, .null])), (q1, .inl (g.2.1 0, 400, .inl (fun _ => 0))), (q3, .inl (g.2.1 1, 11, .inl (fun _ => 0))), (q4, .inl (g.2.1 1, 11, .inl (fun _ => 0)))] := hW
  refine r_putF (ws' := [(h0, .inr (12, [.int 0, .ref q1, .int 0, .int 0, .int 0, .int 0, .ref q2, .ref q3, .ref q4, .null, .null, .null, .null, .null, .null, .null, .null, .null, .int 0, .int 0, .int 0, .null, .null, .null, .null, .null, .null, .int 0, .null, .null, .null, .null, .null, .null, .null, .null, .null, .int 0, .int 0, .int 0, .int 0, .int 0, .int 0, .int 0, .int 0, .int 0, .null, .null, .null, .null, .null, .null, .null, .null, .null, .null, .null, .null, .null, .null, .null, .null, .null, .null])), (q1, .inl (g.2.1 0, 400, .inl (fun _ => 0))), (q3, .inl (g.2.1 1, 11, .inl (fun _ => 0))), (q4, .inl (g.2.1 1, 11, .inl (fun _ => 0)))]) X hin hW 0 ciX12 8 rfl (by decide) m_1239 rfl rfl rfl rfl rfl (Nat.le_of_ble_eq_true rfl) rfl dX12_init_34 (fun H locs hW => ?_)
  refine lv_aload_n (pc := 37) hx hb dX12_init_37 rfl (lv_at hl 0 rfl) ?_
  refine lv_bipush (v := 44) (pc := 38) hx hb dX12_init_38 (by decide) ?_
  refine r_newa (a0 := (44, .inl (fun _ => 0))) X hW .int rfl m_47 1 rfl (by intro C h; cases h) (fun _ => rfl) (by decide) (by decide) (Nat.le_of_ble_eq_true rfl) ⟨Nat.le_of_ble_eq_true rfl, Nat.le_of_ble_eq_true rfl⟩ dX12_init_40 (fun q5 H hW => ?_)
  have hW : WD g A s _ _ [(h0, .inr (12, [.int 0, .ref q1, .int 0, .int 0, .int 0, .int 0, .ref q2, .ref q3, .ref q4, .null, .null, .null, .null, .null, .null, .null, .null, .null, .int 0, .int 0, .int 0, .null, .null, .null, .null, .null, .null, .int 0, .null, .null, .null, .null, .null, .null, .null, .null, .null, .int 0, .int 0, .int 0, .int 0, .int 0, .int 0, .int 0, .int 0, .int 0, .null, .null, .null, .null, .null, .null, .null, .null, .null, .null, .null, .null, .null, .null, .null, .null, .null, .null])), (q1, .inl (g.2.1 0, 400, .inl (fun _ => 0))), (q3, .inl (g.2.1 1, 11, .inl (fun _ => 0))), (q4, .inl (g.2.1 1, 11, .inl (fun _ => 0))), (q5, .inl (g.2.1 1, 44, .inl (fun _ => 0)))] := hW
  refine r_putF (ws' := [(h0, .inr (12, [.int 0, .ref q1, .int 0, .int 0, .int 0, .int 0, .ref q2, .ref q3, .ref q4, .ref q5, .null, .null, .null, .null, .null, .null, .null, .null, .int 0, .int 0, .int 0, .null, .null, .null, .null, .null, .null, .int 0, .null, .null, .null, .null, .null, .null, .null, .null, .null, .int 0, .int 0, .int 0, .int 0, .int 0, .int 0, .int 0, .int 0, .int 0, .null, .null, .null, .null, .null, .null, .null, .null, .null, .null, .null, .null, .null, .null, .null, .null, .null, .null])), (q1, .inl (g.2.1 0, 400, .inl (fun _ => 0))), (q3, .inl (g.2.1 1, 11, .inl (fun _ => 0))), (q4, .inl (g.2.1 1, 11, .inl (fun _ => 0))), (q5, .inl (g.2.1 1, 44, .inl (fun _ => 0)))]) X hin hW 0 ciX12 9 rfl (by decide) m_1240 rfl rfl rfl rfl rfl (Nat.le_of_ble_eq_true rfl) rfl dX12_init_42 (fun H locs hW => ?_)
  refine lv_aload_n (pc := 45) hx hb dX12_init_45 rfl (lv_at hl 0 rfl) ?_
  refine lv_bipush (v := 44) (pc := 46) hx hb dX12_init_46 (by decide) ?_
  refine r_newa (a0 := (44, .inl (fun _ => 0))) X hW .int rfl m_47 1 rfl (by intro C h; cases h) (fun _ => rfl) (by decide) (by decide) (Nat.le_of_ble_eq_true rfl) ⟨Nat.le_of_ble_eq_true rfl, Nat.le_of_ble_eq_true rfl⟩ dX12_init_48 (fun q6 H hW => ?_)
  have hW : WD g A s _ _ [(h0, .inr (12, [.int 0, .ref q1, .int 0, .int 0, .int 0, .int 0, .ref q2, .ref q3, .ref q4, .ref q5, .null, .null, .null, .null, .null, .null, .null, .null, .int 0, .int 0, .int 0, .null, .null, .null, .null, .null, .null, .int 0, .null, .null, .null, .null, .null, .null, .null, .null, .null, .int 0, .int 0, .int 0, .int 0, .int 0, .int 0, .int 0, .int 0, .int 0, .null, .null, .null, .null, .null, .null, .null, .null, .null, .null, .null, .null, .null, .null, .null, .null, .null, .null])), (q1, .inl (g.2.1 0, 400, .inl (fun _ => 0))), (q3, .inl (g.2.1 1, 11, .inl (fun _ => 0))), (q4, .inl (g.2.1 1, 11, .inl (fun _ => 0))), (q5, .inl (g.2.1 1, 44, .inl (fun _ => 0))), (q6, .inl (g.2.1 1, 44, .inl (fun _ => 0)))] := hW
  refine r_putF (ws' := [(h0, .inr (12, [.int 0, .ref q1, .int 0, .int 0, .int 0, .int 0, .ref q2, .ref q3, .ref q4, .ref q5, .ref q6, .null, .null, .null, .null, .null, .null, .null, .int 0, .int 0, .int 0, .null, .null, .null, .null, .null, .null, .int 0, .null, .null, .null, .null, .null, .null, .null, .null, .null, .int 0, .int 0, .int 0, .int 0, .int 0, .int 0, .int 0, .int 0, .int 0, .null, .null, .null, .null, .null, .null, .null, .null, .null, .null, .null, .null, .null, .null, .null, .null, .null, .null])), (q1, .inl (g.2.1 0, 400, .inl (fun _ => 0))), (q3, .inl (g.2.1 1, 11, .inl (fun _ => 0))), (q4, .inl (g.2.1 1, 11, .inl (fun _ => 0))), (q5, .inl (g.2.1 1, 44, .inl (fun _ => 0))), (q6, .inl (g.2.1 1, 44, .inl (fun _ => 0)))]) X hin hW 0 ciX12 10 rfl (by decide) m_1241 rfl rfl rfl rfl rfl (Nat.le_of_ble_eq_true rfl) rfl dX12_init_50 (fun H locs hW => ?_)
  refine lv_aload_n (pc := 53) hx hb dX12_init_53 rfl (lv_at hl 0 rfl) ?_
  refine lv_bipush (v := 44) (pc := 54) hx hb dX12_init_54 (by decide) ?_
  refine r_newa (a0 := (44, .inl (fun _ => 0))) X hW .int rfl m_47 1 rfl (by intro C h; cases h) (fun _ => rfl) (by decide) (by decide) (Nat.le_of_ble_eq_true rfl) ⟨Nat.le_of_ble_eq_true rfl, Nat.le_of_ble_eq_true rfl⟩ dX12_init_56 (fun q7 H hW => ?_)
  have hW : WD g A s _ _ [(h0, .inr (12, [.int 0, .ref q1, .int 0, .int 0, .int 0, .int 0, .ref q2, .ref q3, .ref q4, .ref q5, .ref q6, .null, .null, .null, .null, .null, .null, .null, .int 0, .int 0, .int 0, .null, .null, .null, .null, .null, .null, .int 0, .null, .null, .null, .null, .null, .null, .null, .null, .null, .int 0, .int 0, .int 0, .int 0, .int 0, .int 0, .int 0, .int 0, .int 0, .null, .null, .null, .null, .null, .null, .null, .null, .null, .null, .null, .null, .null, .null, .null, .null, .null, .null])), (q1, .inl (g.2.1 0, 400, .inl (fun _ => 0))), (q3, .inl (g.2.1 1, 11, .inl (fun _ => 0))), (q4, .inl (g.2.1 1, 11, .inl (fun _ => 0))), (q5, .inl (g.2.1 1, 44, .inl (fun _ => 0))), (q6, .inl (g.2.1 1, 44, .inl (fun _ => 0))), (q7, .inl (g.2.1 1, 44, .inl (fun _ => 0)))] := hW
  refine r_putF (ws' := [(h0, .inr (12, [.int 0, .ref q1, .int 0, .int 0, .int 0, .int 0, .ref q2, .ref q3, .ref q4, .ref q5, .ref q6, .ref q7, .null, .null, .null, .null, .null, .null, .int 0, .int 0, .int 0, .null, .null, .null, .null, .null, .null, .int 0, .null, .null, .null, .null, .null, .null, .null, .null, .null, .int 0, .int 0, .int 0, .int 0, .int 0, .int 0, .int 0, .int 0, .int 0, .null, .null, .null, .null, .null, .null, .null, .null, .null, .null, .null, .null, .null, .null, .null, .null, .null, .null])), (q1, .inl (g.2.1 0, 400, .inl (fun _ => 0))), (q3, .inl (g.2.1 1, 11, .inl (fun _ => 0))), (q4, .inl (g.2.1 1, 11, .inl (fun _ => 0))), (q5, .inl (g.2.1 1, 44, .inl (fun _ => 0))), (q6, .inl (g.2.1 1, 44, .inl (fun _ => 0))), (q7, .inl (g.2.1 1, 44, .inl (fun _ => 0)))]) X hin hW 0 ciX12 11 rfl (by decide) m_1242 rfl rfl rfl rfl rfl (Nat.le_of_ble_eq_true rfl) rfl dX12_init_58 (fun H locs hW => ?_)
  refine lv_aload_n (pc := 61) hx hb dX12_init_61 rfl (lv_at hl 0 rfl) ?_
  refine lv_sipush (v := 132) (pc := 62) hx hb dX12_init_62 (by decide) ?_
  refine r_newa (a0 := (132, .inl (fun _ => 0))) X hW .int rfl m_47 1 rfl (by intro C h; cases h) (fun _ => rfl) (by decide) (by decide) (Nat.le_of_ble_eq_true rfl) ⟨Nat.le_of_ble_eq_true rfl, Nat.le_of_ble_eq_true rfl⟩ dX12_init_65 (fun q8 H hW => ?_)
  have hW : WD g A s _ _ [(h0, .inr (12, [.int 0, .ref q1, .int 0, .int 0, .int 0, .int 0, .ref q2, .ref q3, .ref q4, .ref q5, .ref q6, .ref q7, .null, .null, .null, .null, .null, .null, .int 0, .int 0, .int 0, .null, .null, .null, .null, .null, .null, .int 0, .null, .null, .null, .null, .null, .null, .null, .null, .null, .int 0, .int 0, .int 0, .int 0, .int 0, .int 0, .int 0, .int 0, .int 0, .null, .null, .null, .null, .null, .null, .null, .null, .null, .null, .null, .null, .null, .null, .null, .null, .null, .null])), (q1, .inl (g.2.1 0, 400, .inl (fun _ => 0))), (q3, .inl (g.2.1 1, 11, .inl (fun _ => 0))), (q4, .inl (g.2.1 1, 11, .inl (fun _ => 0))), (q5, .inl (g.2.1 1, 44, .inl (fun _ => 0))), (q6, .inl (g.2.1 1, 44, .inl (fun _ => 0))), (q7, .inl (g.2.1 1, 44, .inl (fun _ => 0)))] := hW.pick [0, 1, 2, 3, 4, 5, 6] rfl rfl
  refine r_putF (ws' := [(h0, .inr (12, [.int 0, .ref q1, .int 0, .int 0, .int 0, .int 0, .ref q2, .ref q3, .ref q4, .ref q5, .ref q6, .ref q7, .ref q8, .null, .null, .null, .null, .null, .int 0, .int 0, .int 0, .null, .null, .null, .null, .null, .null, .int 0, .null, .null, .null, .null, .null, .null, .null, .null, .null, .int 0, .int 0, .int 0, .int 0, .int 0, .int 0, .int 0, .int 0, .int 0, .null, .null, .null, .null, .null, .null, .null, .null, .null, .null, .null, .null, .null, .null, .null, .null, .null, .null])), (q1, .inl (g.2.1 0, 400, .inl (fun _ => 0))), (q3, .inl (g.2.1 1, 11, .inl (fun _ => 0))), (q4, .inl (g.2.1 1, 11, .inl (fun _ => 0))), (q5, .inl (g.2.1 1, 44, .inl (fun _ => 0))), (q6, .inl (g.2.1 1, 44, .inl (fun _ => 0))), (q7, .inl (g.2.1 1, 44, .inl (fun _ => 0)))]) X hin hW 0 ciX12 12 rfl (by decide) m_1243 rfl rfl rfl rfl rfl (Nat.le_of_ble_eq_true rfl) rfl dX12_init_67 (fun H locs hW => ?_)
  refine lv_aload_n (pc := 70) hx hb dX12_init_70 rfl (lv_at hl 0 rfl) ?_
  refine lv_sipush (v := 132) (pc := 71) hx hb dX12_init_71 (by decide) ?_
  refine r_newa (a0 := (132, .inl (fun _ => 0))) X hW .int rfl m_47 1 rfl (by intro C h; cases h) (fun _ => rfl) (by decide) (by decide) (Nat.le_of_ble_eq_true rfl) ⟨Nat.le_of_ble_eq_true rfl, Nat.le_of_ble_eq_true rfl⟩ dX12_init_74 (fun q9 H hW => ?_)
  have hW : WD g A s _ _ [(h0, .inr (12, [.int 0, .ref q1, .int 0, .int 0, .int 0, .int 0, .ref q2, .ref q3, .ref q4, .ref q5, .ref q6, .ref q7, .ref q8, .null, .null, .null, .null, .null, .int 0, .int 0, .int 0, .null, .null, .null, .null, .null, .null, .int 0, .null, .null, .null, .null, .null, .null, .null, .null, .null, .int 0, .int 0, .int 0, .int 0, .int 0, .int 0, .int 0, .int 0, .int 0, .null, .null, .null, .null, .null, .null, .null, .null, .null, .null, .null, .null, .null, .null, .null, .null, .null, .null])), (q1, .inl (g.2.1 0, 400, .inl (fun _ => 0))), (q3, .inl (g.2.1 1, 11, .inl (fun _ => 0))), (q4, .inl (g.2.1 1, 11, .inl (fun _ => 0))), (q5, .inl (g.2.1 1, 44, .inl (fun _ => 0))), (q6, .inl (g.2.1 1, 44, .inl (fun _ => 0))), (q7, .inl (g.2.1 1, 44, .inl (fun _ => 0)))] := hW.pick [0, 1, 2, 3, 4, 5, 6] rfl rfl
  refine r_putF (ws' := [(h0, .inr (12, [.int 0, .ref q1, .int 0, .int 0, .int 0, .int 0, .ref q2, .ref q3, .ref q4, .ref q5, .ref q6, .ref q7, .ref q8, .ref q9, .null, .null, .null, .null, .int 0, .int 0, .int 0, .null, .null, .null, .null, .null, .null, .int 0, .null, .null, .null, .null, .null, .null, .null, .null, .null, .int 0, .int 0, .int 0, .int 0, .int 0, .int 0, .int 0, .int 0, .int 0, .null, .null, .null, .null, .null, .null, .null, .null, .null, .null, .null, .null, .null, .null, .null, .null, .null, .null])), (q1, .inl (g.2.1 0, 400, .inl (fun _ => 0))), (q3, .inl (g.2.1 1, 11, .inl (fun _ => 0))), (q4, .inl (g.2.1 1, 11, .inl (fun _ => 0))), (q5, .inl (g.2.1 1, 44, .inl (fun _ => 0))), (q6, .inl (g.2.1 1, 44, .inl (fun _ => 0))), (q7, .inl (g.2.1 1, 44, .inl (fun _ => 0)))]) X hin hW 0 ciX12 13 rfl (by decide) m_1244 rfl rfl rfl rfl rfl (Nat.le_of_ble_eq_true rfl) rfl dX12_init_76 (fun H locs hW => ?_)
  refine lv_aload_n (pc := 79) hx hb dX12_init_79 rfl (lv_at hl 0 rfl) ?_
  refine lv_sipush (v := 132) (pc := 80) hx hb dX12_init_80 (by decide) ?_
  refine r_newa (a0 := (132, .inl (fun _ => 0))) X hW .int rfl m_47 1 rfl (by intro C h; cases h) (fun _ => rfl) (by decide) (by decide) (Nat.le_of_ble_eq_true rfl) ⟨Nat.le_of_ble_eq_true rfl, Nat.le_of_ble_eq_true rfl⟩ dX12_init_83 (fun q10 H hW => ?_)
  have hW : WD g A s _ _ [(h0, .inr (12, [.int 0, .ref q1, .int 0, .int 0, .int 0, .int 0, .ref q2, .ref q3, .ref q4, .ref q5, .ref q6, .ref q7, .ref q8, .ref q9, .null, .null, .null, .null, .int 0, .int 0, .int 0, .null, .null, .null, .null, .null, .null, .int 0, .null, .null, .null, .null, .null, .null, .null, .null, .null, .int 0, .int 0, .int 0, .int 0, .int 0, .int 0, .int 0, .int 0, .int 0, .null, .null, .null, .null, .null, .null, .null, .null, .null, .null, .null, .null, .null, .null, .null, .null, .null, .null])), (q1, .inl (g.2.1 0, 400, .inl (fun _ => 0))), (q3, .inl (g.2.1 1, 11, .inl (fun _ => 0))), (q4, .inl (g.2.1 1, 11, .inl (fun _ => 0))), (q5, .inl (g.2.1 1, 44, .inl (fun _ => 0))), (q6, .inl (g.2.1 1, 44, .inl (fun _ => 0))), (q7, .inl (g.2.1 1, 44, .inl (fun _ => 0)))] := hW.pick [0, 1, 2, 3, 4, 5, 6] rfl rfl
  refine r_putF (ws' := [(h0, .inr (12, [.int 0, .ref q1, .int 0, .int 0, .int 0, .int 0, .ref q2, .ref q3, .ref q4, .ref q5, .ref q6, .ref q7, .ref q8, .ref q9, .ref q10, .null, .null, .null, .int 0, .int 0, .int 0, .null, .null, .null, .null, .null, .null, .int 0, .null, .null, .null, .null, .null, .null, .null, .null, .null, .int 0, .int 0, .int 0, .int 0, .int 0, .int 0, .int 0, .int 0, .int 0, .null, .null, .null, .null, .null, .null, .null, .null, .null, .null, .null, .null, .null, .null, .null, .null, .null, .null])), (q1, .inl (g.2.1 0, 400, .inl (fun _ => 0))), (q3, .inl (g.2.1 1, 11, .inl (fun _ => 0))), (q4, .inl (g.2.1 1, 11, .inl (fun _ => 0))), (q5, .inl (g.2.1 1, 44, .inl (fun _ => 0))), (q6, .inl (g.2.1 1, 44, .inl (fun _ => 0))), (q7, .inl (g.2.1 1, 44, .inl (fun _ => 0)))]) X hin hW 0 ciX12 14 rfl (by decide) m_1245 rfl rfl rfl rfl rfl (Nat.le_of_ble_eq_true rfl) rfl dX12_init_85 (fun H locs hW => ?_)
  refine lv_aload_n (pc := 88) hx hb dX12_init_88 rfl (lv_at hl 0 rfl) ?_
  refine lv_sipush (v := 132) (pc := 89) hx hb dX12_init_89 (by decide) ?_
  refine r_newa (a0 := (132, .inl (fun _ => 0))) X hW .int rfl m_47 1 rfl (by intro C h; cases h) (fun _ => rfl) (by decide) (by decide) (Nat.le_of_ble_eq_true rfl) ⟨Nat.le_of_ble_eq_true rfl, Nat.le_of_ble_eq_true rfl⟩ dX12_init_92 (fun q11 H hW => ?_)
  have hW : WD g A s _ _ [(h0, .inr (12, [.int 0, .ref q1, .int 0, .int 0, .int 0, .int 0, .ref q2, .ref q3, .ref q4, .ref q5, .ref q6, .ref q7, .ref q8, .ref q9, .ref q10, .null, .null, .null, .int 0, .int 0, .int 0, .null, .null, .null, .null, .null, .null, .int 0, .null, .null, .null, .null, .null, .null, .null, .null, .null, .int 0, .int 0, .int 0, .int 0, .int 0, .int 0, .int 0, .int 0, .int 0, .null, .null, .null, .null, .null, .null, .null, .null, .null, .null, .null, .null, .null, .null, .null, .null, .null, .null])), (q1, .inl (g.2.1 0, 400, .inl (fun _ => 0))), (q3, .inl (g.2.1 1, 11, .inl (fun _ => 0))), (q4, .inl (g.2.1 1, 11, .inl (fun _ => 0))), (q5, .inl (g.2.1 1, 44, .inl (fun _ => 0))), (q6, .inl (g.2.1 1, 44, .inl (fun _ => 0))), (q7, .inl (g.2.1 1, 44, .inl (fun _ => 0)))] := hW.pick [0, 1, 2, 3, 4, 5, 6] rfl rfl
  refine r_putF (ws' := [(h0, .inr (12, [.int 0, .ref q1, .int 0, .int 0, .int 0, .int 0, .ref q2, .ref q3, .ref q4, .ref q5, .ref q6, .ref q7, .ref q8, .ref q9, .ref q10, .ref q11, .null, .null, .int 0, .int 0, .int 0, .null, .null, .null, .null, .null, .null, .int 0, .null, .null, .null, .null, .null, .null, .null, .null, .null, .int 0, .int 0, .int 0, .int 0, .int 0, .int 0, .int 0, .int 0, .int 0, .null, .null, .null, .null, .null, .null, .null, .null, .null, .null, .null, .null, .null, .null, .null, .null, .null, .null])), (q1, .inl (g.2.1 0, 400, .inl (fun _ => 0))), (q3, .inl (g.2.1 1, 11, .inl (fun _ => 0))), (q4, .inl (g.2.1 1, 11, .inl (fun _ => 0))), (q5, .inl (g.2.1 1, 44, .inl (fun _ => 0))), (q6, .inl (g.2.1 1, 44, .inl (fun _ => 0))), (q7, .inl (g.2.1 1, 44, .inl (fun _ => 0)))]) X hin hW 0 ciX12 15 rfl (by decide) m_1246 rfl rfl rfl rfl rfl (Nat.le_of_ble_eq_true rfl) rfl dX12_init_94 (fun H locs hW => ?_)
  refine lv_aload_n (pc := 97) hx hb dX12_init_97 rfl (lv_at hl 0 rfl) ?_
  refine lv_sipush (v := 132) (pc := 98) hx hb dX12_init_98 (by decide) ?_
  refine r_newa (a0 := (132, .inl (fun _ => 0))) X hW .int rfl m_47 1 rfl (by intro C h; cases h) (fun _ => rfl) (by decide) (by decide) (Nat.le_of_ble_eq_true rfl) ⟨Nat.le_of_ble_eq_true rfl, Nat.le_of_ble_eq_true rfl⟩ dX12_init_101 (fun q12 H hW => ?_)
  have hW : WD g A s _ _ [(h0, .inr (12, [.int 0, .ref q1, .int 0, .int 0, .int 0, .int 0, .ref q2, .ref q3, .ref q4, .ref q5, .ref q6, .ref q7, .ref q8, .ref q9, .ref q10, .ref q11, .null, .null, .int 0, .int 0, .int 0, .null, .null, .null, .null, .null, .null, .int 0, .null, .null, .null, .null, .null, .null, .null, .null, .null, .int 0, .int 0, .int 0, .int 0, .int 0, .int 0, .int 0, .int 0, .int 0, .null, .null, .null, .null, .null, .null, .null, .null, .null, .null, .null, .null, .null, .null, .null, .null, .null, .null])), (q1, .inl (g.2.1 0, 400, .inl (fun _ => 0))), (q3, .inl (g.2.1 1, 11, .inl (fun _ => 0))), (q4, .inl (g.2.1 1, 11, .inl (fun _ => 0))), (q5, .inl (g.2.1 1, 44, .inl (fun _ => 0))), (q6, .inl (g.2.1 1, 44, .inl (fun _ => 0))), (q7, .inl (g.2.1 1, 44, .inl (fun _ => 0)))] := hW.pick [0, 1, 2, 3, 4, 5, 6] rfl rfl
  refine r_putF (ws' := [(h0, .inr (12, [.int 0, .ref q1, .int 0, .int 0, .int 0, .int 0, .ref q2, .ref q3, .ref q4, .ref q5, .ref q6, .ref q7, .ref q8, .ref q9, .ref q10, .ref q11, .ref q12, .null, .int 0, .int 0, .int 0, .null, .null, .null, .null, .null, .null, .int 0, .null, .null, .null, .null, .null, .null, .null, .null, .null, .int 0, .int 0, .int 0, .int 0, .int 0, .int 0, .int 0, .int 0, .int 0, .null, .null, .null, .null, .null, .null, .null, .null, .null, .null, .null, .null, .null, .null, .null, .null, .null, .null])), (q1, .inl (g.2.1 0, 400, .inl (fun _ => 0))), (q3, .inl (g.2.1 1, 11, .inl (fun _ => 0))), (q4, .inl (g.2.1 1, 11, .inl (fun _ => 0))), (q5, .inl (g.2.1 1, 44, .inl (fun _ => 0))), (q6, .inl (g.2.1 1, 44, .inl (fun _ => 0))), (q7, .inl (g.2.1 1, 44, .inl (fun _ => 0)))]) X hin hW 0 ciX12 16 rfl (by decide) m_1247 rfl rfl rfl rfl rfl (Nat.le_of_ble_eq_true rfl) rfl dX12_init_103 (fun H locs hW => ?_)
  refine lv_aload_n (pc := 106) hx hb dX12_init_106 rfl (lv_at hl 0 rfl) ?_
  refine lv_sipush (v := 132) (pc := 107) hx hb dX12_init_107 (by decide) ?_
  refine r_newa (a0 := (132, .inl (fun _ => 0))) X hW .boolean rfl m_109 3 rfl (by intro C h; cases h) (fun _ => rfl) (by decide) (by decide) (Nat.le_of_ble_eq_true rfl) ⟨Nat.le_of_ble_eq_true rfl, Nat.le_of_ble_eq_true rfl⟩ dX12_init_110 (fun q13 H hW => ?_)
  have hW : WD g A s _ _ [(h0, .inr (12, [.int 0, .ref q1, .int 0, .int 0, .int 0, .int 0, .ref q2, .ref q3, .ref q4, .ref q5, .ref q6, .ref q7, .ref q8, .ref q9, .ref q10, .ref q11, .ref q12, .null, .int 0, .int 0, .int 0, .null, .null, .null, .null, .null, .null, .int 0, .null, .null, .null, .null, .null, .null, .null, .null, .null, .int 0, .int 0, .int 0, .int 0, .int 0, .int 0, .int 0, .int 0, .int 0, .null, .null, .null, .null, .null, .null, .null, .null, .null, .null, .null, .null, .null, .null, .null, .null, .null, .null])), (q1, .inl (g.2.1 0, 400, .inl (fun _ => 0))), (q3, .inl (g.2.1 1, 11, .inl (fun _ => 0))), (q4, .inl (g.2.1 1, 11, .inl (fun _ => 0))), (q5, .inl (g.2.1 1, 44, .inl (fun _ => 0))), (q6, .inl (g.2.1 1, 44, .inl (fun _ => 0))), (q7, .inl (g.2.1 1, 44, .inl (fun _ => 0)))] := hW.pick [0, 1, 2, 3, 4, 5, 6] rfl rfl
  refine r_putF (ws' := [(h0, .inr (12, [.int 0, .ref q1, .int 0, .int 0, .int 0, .int 0, .ref q2, .ref q3, .ref q4, .ref q5, .ref q6, .ref q7, .ref q8, .ref q9, .ref q10, .ref q11, .ref q12, .ref q13, .int 0, .int 0, .int 0, .null, .null, .null, .null, .null, .null, .int 0, .null, .null, .null, .null, .null, .null, .null, .null, .null, .int 0, .int 0, .int 0, .int 0, .int 0, .int 0, .int 0, .int 0, .int 0, .null, .null, .null, .null, .null, .null, .null, .null, .null, .null, .null, .null, .null, .null, .null, .null, .null, .null])), (q1, .inl (g.2.1 0, 400, .inl (fun _ => 0))), (q3, .inl (g.2.1 1, 11, .inl (fun _ => 0))), (q4, .inl (g.2.1 1, 11, .inl (fun _ => 0))), (q5, .inl (g.2.1 1, 44, .inl (fun _ => 0))), (q6, .inl (g.2.1 1, 44, .inl (fun _ => 0))), (q7, .inl (g.2.1 1, 44, .inl (fun _ => 0)))]) X hin hW 0 ciX12 17 rfl (by decide) m_1248 rfl rfl rfl rfl rfl (Nat.le_of_ble_eq_true rfl) rfl dX12_init_112 (fun H locs hW => ?_)
  refine lv_aload_n (pc := 115) hx hb dX12_init_115 rfl (lv_at hl 0 rfl) ?_
  refine lv_iconst (v := (-1)) (pc := 116) hx hb dX12_init_116 (by decide) ?_
  refine r_put (ws' := [(h0, .inr (12, [.int 0, .ref q1, .int 0, .int 0, .int 0, .int 0, .ref q2, .ref q3, .ref q4, .ref q5, .ref q6, .ref q7, .ref q8, .ref q9, .ref q10, .ref q11, .ref q12, .ref q13, .int 0, .int (-1), .int 0, .null, .null, .null, .null, .null, .null, .int 0, .null, .null, .null, .null, .null, .null, .null, .null, .null, .int 0, .int 0, .int 0, .int 0, .int 0, .int 0, .int 0, .int 0, .int 0, .null, .null, .null, .null, .null, .null, .null, .null, .null, .null, .null, .null, .null, .null, .null, .null, .null, .null])), (q1, .inl (g.2.1 0, 400, .inl (fun _ => 0))), (q3, .inl (g.2.1 1, 11, .inl (fun _ => 0))), (q4, .inl (g.2.1 1, 11, .inl (fun _ => 0))), (q5, .inl (g.2.1 1, 44, .inl (fun _ => 0))), (q6, .inl (g.2.1 1, 44, .inl (fun _ => 0))), (q7, .inl (g.2.1 1, 44, .inl (fun _ => 0)))]) X hW 0 ciX12 19 rfl (by decide) m_1250 rfl rfl rfl rfl (Nat.le_of_ble_eq_true rfl) rfl dX12_init_117 (fun H locs hW => ?_)
  refine lv_aload_n (pc := 120) hx hb dX12_init_120 rfl (lv_at hl 0 rfl) ?_
  refine lv_iconst (v := (-1)) (pc := 121) hx hb dX12_init_121 (by decide) ?_
  refine r_put (ws' := [(h0, .inr (12, [.int 0, .ref q1, .int 0, .int 0, .int 0, .int 0, .ref q2, .ref q3, .ref q4, .ref q5, .ref q6, .ref q7, .ref q8, .ref q9, .ref q10, .ref q11, .ref q12, .ref q13, .int 0, .int (-1), .int (-1), .null, .null, .null, .null, .null, .null, .int 0, .null, .null, .null, .null, .null, .null, .null, .null, .null, .int 0, .int 0, .int 0, .int 0, .int 0, .int 0, .int 0, .int 0, .int 0, .null, .null, .null, .null, .null, .null, .null, .null, .null, .null, .null, .null, .null, .null, .null, .null, .null, .null])), (q1, .inl (g.2.1 0, 400, .inl (fun _ => 0))), (q3, .inl (g.2.1 1, 11, .inl (fun _ => 0))), (q4, .inl (g.2.1 1, 11, .inl (fun _ => 0))), (q5, .inl (g.2.1 1, 44, .inl (fun _ => 0))), (q6, .inl (g.2.1 1, 44, .inl (fun _ => 0))), (q7, .inl (g.2.1 1, 44, .inl (fun _ => 0)))]) X hW 0 ciX12 20 rfl (by decide) m_1251 rfl rfl rfl rfl (Nat.le_of_ble_eq_true rfl) rfl dX12_init_122 (fun H locs hW => ?_)
  refine lv_aload_n (pc := 125) hx hb dX12_init_125 rfl (lv_at hl 0 rfl) ?_
  refine lv_bipush (v := 12) (pc := 126) hx hb dX12_init_126 (by decide) ?_
  refine r_newa (a0 := (12, .inl (fun _ => 0))) X hW .int rfl m_47 1 rfl (by intro C h; cases h) (fun _ => rfl) (by decide) (by decide) (Nat.le_of_ble_eq_true rfl) ⟨Nat.le_of_ble_eq_true rfl, Nat.le_of_ble_eq_true rfl⟩ dX12_init_128 (fun q14 H hW => ?_)
  have hW : WD g A s _ _ [(h0, .inr (12, [.int 0, .ref q1, .int 0, .int 0, .int 0, .int 0, .ref q2, .ref q3, .ref q4, .ref q5, .ref q6, .ref q7, .ref q8, .ref q9, .ref q10, .ref q11, .ref q12, .ref q13, .int 0, .int (-1), .int (-1), .null, .null, .null, .null, .null, .null, .int 0, .null, .null, .null, .null, .null, .null, .null, .null, .null, .int 0, .int 0, .int 0, .int 0, .int 0, .int 0, .int 0, .int 0, .int 0, .null, .null, .null, .null, .null, .null, .null, .null, .null, .null, .null, .null, .null, .null, .null, .null, .null, .null])), (q1, .inl (g.2.1 0, 400, .inl (fun _ => 0))), (q3, .inl (g.2.1 1, 11, .inl (fun _ => 0))), (q4, .inl (g.2.1 1, 11, .inl (fun _ => 0))), (q5, .inl (g.2.1 1, 44, .inl (fun _ => 0))), (q6, .inl (g.2.1 1, 44, .inl (fun _ => 0))), (q7, .inl (g.2.1 1, 44, .inl (fun _ => 0)))] := hW.pick [0, 1, 2, 3, 4, 5, 6] rfl rfl
  refine r_putF (ws' := [(h0, .inr (12, [.int 0, .ref q1, .int 0, .int 0, .int 0, .int 0, .ref q2, .ref q3, .ref q4, .ref q5, .ref q6, .ref q7, .ref q8, .ref q9, .ref q10, .ref q11, .ref q12, .ref q13, .int 0, .int (-1), .int (-1), .ref q14, .null, .null, .null, .null, .null, .int 0, .null, .null, .null, .null, .null, .null, .null, .null, .null, .int 0, .int 0, .int 0, .int 0, .int 0, .int 0, .int 0, .int 0, .int 0, .null, .null, .null, .null, .null, .null, .null, .null, .null, .null, .null, .null, .null, .null, .null, .null, .null, .null])), (q1, .inl (g.2.1 0, 400, .inl (fun _ => 0))), (q3, .inl (g.2.1 1, 11, .inl (fun _ => 0))), (q4, .inl (g.2.1 1, 11, .inl (fun _ => 0))), (q5, .inl (g.2.1 1, 44, .inl (fun _ => 0))), (q6, .inl (g.2.1 1, 44, .inl (fun _ => 0))), (q7, .inl (g.2.1 1, 44, .inl (fun _ => 0)))]) X hin hW 0 ciX12 21 rfl (by decide) m_1252 rfl rfl rfl rfl rfl (Nat.le_of_ble_eq_true rfl) rfl dX12_init_130 (fun H locs hW => ?_)
  refine lv_aload_n (pc := 133) hx hb dX12_init_133 rfl (lv_at hl 0 rfl) ?_
  refine lv_bipush (v := 12) (pc := 134) hx hb dX12_init_134 (by decide) ?_
  refine r_newa (a0 := (12, .inl (fun _ => 0))) X hW .int rfl m_47 1 rfl (by intro C h; cases h) (fun _ => rfl) (by decide) (by decide) (Nat.le_of_ble_eq_true rfl) ⟨Nat.le_of_ble_eq_true rfl, Nat.le_of_ble_eq_true rfl⟩ dX12_init_136 (fun q15 H hW => ?_)
  have hW : WD g A s _ _ [(h0, .inr (12, [.int 0, .ref q1, .int 0, .int 0, .int 0, .int 0, .ref q2, .ref q3, .ref q4, .ref q5, .ref q6, .ref q7, .ref q8, .ref q9, .ref q10, .ref q11, .ref q12, .ref q13, .int 0, .int (-1), .int (-1), .ref q14, .null, .null, .null, .null, .null, .int 0, .null, .null, .null, .null, .null, .null, .null, .null, .null, .int 0, .int 0, .int 0, .int 0, .int 0, .int 0, .int 0, .int 0, .int 0, .null, .null, .null, .null, .null, .null, .null, .null, .null, .null, .null, .null, .null, .null, .null, .null, .null, .null])), (q1, .inl (g.2.1 0, 400, .inl (fun _ => 0))), (q3, .inl (g.2.1 1, 11, .inl (fun _ => 0))), (q4, .inl (g.2.1 1, 11, .inl (fun _ => 0))), (q5, .inl (g.2.1 1, 44, .inl (fun _ => 0))), (q6, .inl (g.2.1 1, 44, .inl (fun _ => 0))), (q7, .inl (g.2.1 1, 44, .inl (fun _ => 0)))] := hW.pick [0, 1, 2, 3, 4, 5, 6] rfl rfl
  refine r_putF (ws' := [(h0, .inr (12, [.int 0, .ref q1, .int 0, .int 0, .int 0, .int 0, .ref q2, .ref q3, .ref q4, .ref q5, .ref q6, .ref q7, .ref q8, .ref q9, .ref q10, .ref q11, .ref q12, .ref q13, .int 0, .int (-1), .int (-1), .ref q14, .ref q15, .null, .null, .null, .null, .int 0, .null, .null, .null, .null, .null, .null, .null, .null, .null, .int 0, .int 0, .int 0, .int 0, .int 0, .int 0, .int 0, .int 0, .int 0, .null, .null, .null, .null, .null, .null, .null, .null, .null, .null, .null, .null, .null, .null, .null, .null, .null, .null])), (q1, .inl (g.2.1 0, 400, .inl (fun _ => 0))), (q3, .inl (g.2.1 1, 11, .inl (fun _ => 0))), (q4, .inl (g.2.1 1, 11, .inl (fun _ => 0))), (q5, .inl (g.2.1 1, 44, .inl (fun _ => 0))), (q6, .inl (g.2.1 1, 44, .inl (fun _ => 0))), (q7, .inl (g.2.1 1, 44, .inl (fun _ => 0)))]) X hin hW 0 ciX12 22 rfl (by decide) m_1253 rfl rfl rfl rfl rfl (Nat.le_of_ble_eq_true rfl) rfl dX12_init_138 (fun H locs hW => ?_)
  refine lv_aload_n (pc := 141) hx hb dX12_init_141 rfl (lv_at hl 0 rfl) ?_
  refine lv_sipush (v := 480) (pc := 142) hx hb dX12_init_142 (by decide) ?_
  refine r_newa (a0 := (480, .inl (fun _ => 0))) X hW .int rfl m_47 1 rfl (by intro C h; cases h) (fun _ => rfl) (by decide) (by decide) (Nat.le_of_ble_eq_true rfl) ⟨Nat.le_of_ble_eq_true rfl, Nat.le_of_ble_eq_true rfl⟩ dX12_init_145 (fun q16 H hW => ?_)
  have hW : WD g A s _ _ [(h0, .inr (12, [.int 0, .ref q1, .int 0, .int 0, .int 0, .int 0, .ref q2, .ref q3, .ref q4, .ref q5, .ref q6, .ref q7, .ref q8, .ref q9, .ref q10, .ref q11, .ref q12, .ref q13, .int 0, .int (-1), .int (-1), .ref q14, .ref q15, .null, .null, .null, .null, .int 0, .null, .null, .null, .null, .null, .null, .null, .null, .null, .int 0, .int 0, .int 0, .int 0, .int 0, .int 0, .int 0, .int 0, .int 0, .null, .null, .null, .null, .null, .null, .null, .null, .null, .null, .null, .null, .null, .null, .null, .null, .null, .null])), (q1, .inl (g.2.1 0, 400, .inl (fun _ => 0))), (q3, .inl (g.2.1 1, 11, .inl (fun _ => 0))), (q4, .inl (g.2.1 1, 11, .inl (fun _ => 0))), (q5, .inl (g.2.1 1, 44, .inl (fun _ => 0))), (q6, .inl (g.2.1 1, 44, .inl (fun _ => 0))), (q7, .inl (g.2.1 1, 44, .inl (fun _ => 0)))] := hW.pick [0, 1, 2, 3, 4, 5, 6] rfl rfl
  refine r_putF (ws' := [(h0, .inr (12, [.int 0, .ref q1, .int 0, .int 0, .int 0, .int 0, .ref q2, .ref q3, .ref q4, .ref q5, .ref q6, .ref q7, .ref q8, .ref q9, .ref q10, .ref q11, .ref q12, .ref q13, .int 0, .int (-1), .int (-1), .ref q14, .ref q15, .ref q16, .null, .null, .null, .int 0, .null, .null, .null, .null, .null, .null, .null, .null, .null, .int 0, .int 0, .int 0, .int 0, .int 0, .int 0, .int 0, .int 0, .int 0, .null, .null, .null, .null, .null, .null, .null, .null, .null, .null, .null, .null, .null, .null, .null, .null, .null, .null])), (q1, .inl (g.2.1 0, 400, .inl (fun _ => 0))), (q3, .inl (g.2.1 1, 11, .inl (fun _ => 0))), (q4, .inl (g.2.1 1, 11, .inl (fun _ => 0))), (q5, .inl (g.2.1 1, 44, .inl (fun _ => 0))), (q6, .inl (g.2.1 1, 44, .inl (fun _ => 0))), (q7, .inl (g.2.1 1, 44, .inl (fun _ => 0)))]) X hin hW 0 ciX12 23 rfl (by decide) m_1254 rfl rfl rfl rfl rfl (Nat.le_of_ble_eq_true rfl) rfl dX12_init_147 (fun H locs hW => ?_)
  refine lv_aload_n (pc := 150) hx hb dX12_init_150 rfl (lv_at hl 0 rfl) ?_
  refine lv_sipush (v := 480) (pc := 151) hx hb dX12_init_151 (by decide) ?_
  refine r_newa (a0 := (480, .inl (fun _ => 0))) X hW .int rfl m_47 1 rfl (by intro C h; cases h) (fun _ => rfl) (by decide) (by decide) (Nat.le_of_ble_eq_true rfl) ⟨Nat.le_of_ble_eq_true rfl, Nat.le_of_ble_eq_true rfl⟩ dX12_init_154 (fun q17 H hW => ?_)
  have hW : WD g A s _ _ [(h0, .inr (12, [.int 0, .ref q1, .int 0, .int 0, .int 0, .int 0, .ref q2, .ref q3, .ref q4, .ref q5, .ref q6, .ref q7, .ref q8, .ref q9, .ref q10, .ref q11, .ref q12, .ref q13, .int 0, .int (-1), .int (-1), .ref q14, .ref q15, .ref q16, .null, .null, .null, .int 0, .null, .null, .null, .null, .null, .null, .null, .null, .null, .int 0, .int 0, .int 0, .int 0, .int 0, .int 0, .int 0, .int 0, .int 0, .null, .null, .null, .null, .null, .null, .null, .null, .null, .null, .null, .null, .null, .null, .null, .null, .null, .null])), (q1, .inl (g.2.1 0, 400, .inl (fun _ => 0))), (q3, .inl (g.2.1 1, 11, .inl (fun _ => 0))), (q4, .inl (g.2.1 1, 11, .inl (fun _ => 0))), (q5, .inl (g.2.1 1, 44, .inl (fun _ => 0))), (q6, .inl (g.2.1 1, 44, .inl (fun _ => 0))), (q7, .inl (g.2.1 1, 44, .inl (fun _ => 0)))] := hW.pick [0, 1, 2, 3, 4, 5, 6] rfl rfl
  refine r_putF (ws' := [(h0, .inr (12, [.int 0, .ref q1, .int 0, .int 0, .int 0, .int 0, .ref q2, .ref q3, .ref q4, .ref q5, .ref q6, .ref q7, .ref q8, .ref q9, .ref q10, .ref q11, .ref q12, .ref q13, .int 0, .int (-1), .int (-1), .ref q14, .ref q15, .ref q16, .ref q17, .null, .null, .int 0, .null, .null, .null, .null, .null, .null, .null, .null, .null, .int 0, .int 0, .int 0, .int 0, .int 0, .int 0, .int 0, .int 0, .int 0, .null, .null, .null, .null, .null, .null, .null, .null, .null, .null, .null, .null, .null, .null, .null, .null, .null, .null])), (q1, .inl (g.2.1 0, 400, .inl (fun _ => 0))), (q3, .inl (g.2.1 1, 11, .inl (fun _ => 0))), (q4, .inl (g.2.1 1, 11, .inl (fun _ => 0))), (q5, .inl (g.2.1 1, 44, .inl (fun _ => 0))), (q6, .inl (g.2.1 1, 44, .inl (fun _ => 0))), (q7, .inl (g.2.1 1, 44, .inl (fun _ => 0)))]) X hin hW 0 ciX12 24 rfl (by decide) m_1255 rfl rfl rfl rfl rfl (Nat.le_of_ble_eq_true rfl) rfl dX12_init_156 (fun H locs hW => ?_)
  refine lv_aload_n (pc := 159) hx hb dX12_init_159 rfl (lv_at hl 0 rfl) ?_
  refine lv_sipush (v := 480) (pc := 160) hx hb dX12_init_160 (by decide) ?_
  refine r_newa (a0 := (480, .inl (fun _ => 0))) X hW .int rfl m_47 1 rfl (by intro C h; cases h) (fun _ => rfl) (by decide) (by decide) (Nat.le_of_ble_eq_true rfl) ⟨Nat.le_of_ble_eq_true rfl, Nat.le_of_ble_eq_true rfl⟩ dX12_init_163 (fun q18 H hW => ?_)
  have hW : WD g A s _ _ [(h0, .inr (12, [.int 0, .ref q1, .int 0, .int 0, .int 0, .int 0, .ref q2, .ref q3, .ref q4, .ref q5, .ref q6, .ref q7, .ref q8, .ref q9, .ref q10, .ref q11, .ref q12, .ref q13, .int 0, .int (-1), .int (-1), .ref q14, .ref q15, .ref q16, .ref q17, .null, .null, .int 0, .null, .null, .null, .null, .null, .null, .null, .null, .null, .int 0, .int 0, .int 0, .int 0, .int 0, .int 0, .int 0, .int 0, .int 0, .null, .null, .null, .null, .null, .null, .null, .null, .null, .null, .null, .null, .null, .null, .null, .null, .null, .null])), (q1, .inl (g.2.1 0, 400, .inl (fun _ => 0))), (q3, .inl (g.2.1 1, 11, .inl (fun _ => 0))), (q4, .inl (g.2.1 1, 11, .inl (fun _ => 0))), (q5, .inl (g.2.1 1, 44, .inl (fun _ => 0))), (q6, .inl (g.2.1 1, 44, .inl (fun _ => 0))), (q7, .inl (g.2.1 1, 44, .inl (fun _ => 0)))] := hW.pick [0, 1, 2, 3, 4, 5, 6] rfl rfl
  refine r_putF (ws' := [(h0, .inr (12, [.int 0, .ref q1, .int 0, .int 0, .int 0, .int 0, .ref q2, .ref q3, .ref q4, .ref q5, .ref q6, .ref q7, .ref q8, .ref q9, .ref q10, .ref q11, .ref q12, .ref q13, .int 0, .int (-1), .int (-1), .ref q14, .ref q15, .ref q16, .ref q17, .ref q18, .null, .int 0, .null, .null, .null, .null, .null, .null, .null, .null, .null, .int 0, .int 0, .int 0, .int 0, .int 0, .int 0, .int 0, .int 0, .int 0, .null, .null, .null, .null, .null, .null, .null, .null, .null, .null, .null, .null, .null, .null, .null, .null, .null, .null])), (q1, .inl (g.2.1 0, 400, .inl (fun _ => 0))), (q3, .inl (g.2.1 1, 11, .inl (fun _ => 0))), (q4, .inl (g.2.1 1, 11, .inl (fun _ => 0))), (q5, .inl (g.2.1 1, 44, .inl (fun _ => 0))), (q6, .inl (g.2.1 1, 44, .inl (fun _ => 0))), (q7, .inl (g.2.1 1, 44, .inl (fun _ => 0)))]) X hin hW 0 ciX12 25 rfl (by decide) m_1256 rfl rfl rfl rfl rfl (Nat.le_of_ble_eq_true rfl) rfl dX12_init_165 (fun H locs hW => ?_)
  refine lv_aload_n (pc := 168) hx hb dX12_init_168 rfl (lv_at hl 0 rfl) ?_
  refine lv_sipush (v := 480) (pc := 169) hx hb dX12_init_169 (by decide) ?_
  refine r_newa (a0 := (480, .inl (fun _ => 0))) X hW .int rfl m_47 1 rfl (by intro C h; cases h) (fun _ => rfl) (by decide) (by decide) (Nat.le_of_ble_eq_true rfl) ⟨Nat.le_of_ble_eq_true rfl, Nat.le_of_ble_eq_true rfl⟩ dX12_init_172 (fun q19 H hW => ?_)
  have hW : WD g A s _ _ [(h0, .inr (12, [.int 0, .ref q1, .int 0, .int 0, .int 0, .int 0, .ref q2, .ref q3, .ref q4, .ref q5, .ref q6, .ref q7, .ref q8, .ref q9, .ref q10, .ref q11, .ref q12, .ref q13, .int 0, .int (-1), .int (-1), .ref q14, .ref q15, .ref q16, .ref q17, .ref q18, .null, .int 0, .null, .null, .null, .null, .null, .null, .null, .null, .null, .int 0, .int 0, .int 0, .int 0, .int 0, .int 0, .int 0, .int 0, .int 0, .null, .null, .null, .null, .null, .null, .null, .null, .null, .null, .null, .null, .null, .null, .null, .null, .null, .null])), (q1, .inl (g.2.1 0, 400, .inl (fun _ => 0))), (q3, .inl (g.2.1 1, 11, .inl (fun _ => 0))), (q4, .inl (g.2.1 1, 11, .inl (fun _ => 0))), (q5, .inl (g.2.1 1, 44, .inl (fun _ => 0))), (q6, .inl (g.2.1 1, 44, .inl (fun _ => 0))), (q7, .inl (g.2.1 1, 44, .inl (fun _ => 0)))] := hW.pick [0, 1, 2, 3, 4, 5, 6] rfl rfl
  refine r_putF (ws' := [(h0, .inr (12, [.int 0, .ref q1, .int 0, .int 0, .int 0, .int 0, .ref q2, .ref q3, .ref q4, .ref q5, .ref q6, .ref q7, .ref q8, .ref q9, .ref q10, .ref q11, .ref q12, .ref q13, .int 0, .int (-1), .int (-1), .ref q14, .ref q15, .ref q16, .ref q17, .ref q18, .ref q19, .int 0, .null, .null, .null, .null, .null, .null, .null, .null, .null, .int 0, .int 0, .int 0, .int 0, .int 0, .int 0, .int 0, .int 0, .int 0, .null, .null, .null, .null, .null, .null, .null, .null, .null, .null, .null, .null, .null, .null, .null, .null, .null, .null])), (q1, .inl (g.2.1 0, 400, .inl (fun _ => 0))), (q3, .inl (g.2.1 1, 11, .inl (fun _ => 0))), (q4, .inl (g.2.1 1, 11, .inl (fun _ => 0))), (q5, .inl (g.2.1 1, 44, .inl (fun _ => 0))), (q6, .inl (g.2.1 1, 44, .inl (fun _ => 0))), (q7, .inl (g.2.1 1, 44, .inl (fun _ => 0)))]) X hin hW 0 ciX12 26 rfl (by decide) m_1257 rfl rfl rfl rfl rfl (Nat.le_of_ble_eq_true rfl) rfl dX12_init_174 (fun H locs hW => ?_)
  refine lv_aload_n (pc := 177) hx hb dX12_init_177 rfl (lv_at hl 0 rfl) ?_
  refine lv_bipush (v := 40) (pc := 178) hx hb dX12_init_178 (by decide) ?_
  refine r_newa (a0 := (40, .inl (fun _ => 0))) X hW .int rfl m_47 1 rfl (by intro C h; cases h) (fun _ => rfl) (by decide) (by decide) (Nat.le_of_ble_eq_true rfl) ⟨Nat.le_of_ble_eq_true rfl, Nat.le_of_ble_eq_true rfl⟩ dX12_init_180 (fun q20 H hW => ?_)
  have hW : WD g A s _ _ [(h0, .inr (12, [.int 0, .ref q1, .int 0, .int 0, .int 0, .int 0, .ref q2, .ref q3, .ref q4, .ref q5, .ref q6, .ref q7, .ref q8, .ref q9, .ref q10, .ref q11, .ref q12, .ref q13, .int 0, .int (-1), .int (-1), .ref q14, .ref q15, .ref q16, .ref q17, .ref q18, .ref q19, .int 0, .null, .null, .null, .null, .null, .null, .null, .null, .null, .int 0, .int 0, .int 0, .int 0, .int 0, .int 0, .int 0, .int 0, .int 0, .null, .null, .null, .null, .null, .null, .null, .null, .null, .null, .null, .null, .null, .null, .null, .null, .null, .null])), (q1, .inl (g.2.1 0, 400, .inl (fun _ => 0))), (q3, .inl (g.2.1 1, 11, .inl (fun _ => 0))), (q4, .inl (g.2.1 1, 11, .inl (fun _ => 0))), (q5, .inl (g.2.1 1, 44, .inl (fun _ => 0))), (q6, .inl (g.2.1 1, 44, .inl (fun _ => 0))), (q7, .inl (g.2.1 1, 44, .inl (fun _ => 0)))] := hW.pick [0, 1, 2, 3, 4, 5, 6] rfl rfl
  refine r_putF (ws' := [(h0, .inr (12, [.int 0, .ref q1, .int 0, .int 0, .int 0, .int 0, .ref q2, .ref q3, .ref q4, .ref q5, .ref q6, .ref q7, .ref q8, .ref q9, .ref q10, .ref q11, .ref q12, .ref q13, .int 0, .int (-1), .int (-1), .ref q14, .ref q15, .ref q16, .ref q17, .ref q18, .ref q19, .int 0, .ref q20, .null, .null, .null, .null, .null, .null, .null, .null, .int 0, .int 0, .int 0, .int 0, .int 0, .int 0, .int 0, .int 0, .int 0, .null, .null, .null, .null, .null, .null, .null, .null, .null, .null, .null, .null, .null, .null, .null, .null, .null, .null])), (q1, .inl (g.2.1 0, 400, .inl (fun _ => 0))), (q3, .inl (g.2.1 1, 11, .inl (fun _ => 0))), (q4, .inl (g.2.1 1, 11, .inl (fun _ => 0))), (q5, .inl (g.2.1 1, 44, .inl (fun _ => 0))), (q6, .inl (g.2.1 1, 44, .inl (fun _ => 0))), (q7, .inl (g.2.1 1, 44, .inl (fun _ => 0)))]) X hin hW 0 ciX12 28 rfl (by decide) m_1259 rfl rfl rfl rfl rfl (Nat.le_of_ble_eq_true rfl) rfl dX12_init_182 (fun H locs hW => ?_)
  refine lv_aload_n (pc := 185) hx hb dX12_init_185 rfl (lv_at hl 0 rfl) ?_
  refine lv_bipush (v := 40) (pc := 186) hx hb dX12_init_186 (by decide) ?_
  refine r_newa (a0 := (40, .inl (fun _ => 0))) X hW .int rfl m_47 1 rfl (by intro C h; cases h) (fun _ => rfl) (by decide) (by decide) (Nat.le_of_ble_eq_true rfl) ⟨Nat.le_of_ble_eq_true rfl, Nat.le_of_ble_eq_true rfl⟩ dX12_init_188 (fun q21 H hW => ?_)
  have hW : WD g A s _ _ [(h0, .inr (12, [.int 0, .ref q1, .int 0, .int 0, .int 0, .int 0, .ref q2, .ref q3, .ref q4, .ref q5, .ref q6, .ref q7, .ref q8, .ref q9, .ref q10, .ref q11, .ref q12, .ref q13, .int 0, .int (-1), .int (-1), .ref q14, .ref q15, .ref q16, .ref q17, .ref q18, .ref q19, .int 0, .ref q20, .null, .null, .null, .null, .null, .null, .null, .null, .int 0, .int 0, .int 0, .int 0, .int 0, .int 0, .int 0, .int 0, .int 0, .null, .null, .null, .null, .null, .null, .null, .null, .null, .null, .null, .null, .null, .null, .null, .null, .null, .null])), (q1, .inl (g.2.1 0, 400, .inl (fun _ => 0))), (q3, .inl (g.2.1 1, 11, .inl (fun _ => 0))), (q4, .inl (g.2.1 1, 11, .inl (fun _ => 0))), (q5, .inl (g.2.1 1, 44, .inl (fun _ => 0))), (q6, .inl (g.2.1 1, 44, .inl (fun _ => 0))), (q7, .inl (g.2.1 1, 44, .inl (fun _ => 0)))] := hW.pick [0, 1, 2, 3, 4, 5, 6] rfl rfl
  refine r_putF (ws' := [(h0, .inr (12, [.int 0, .ref q1, .int 0, .int 0, .int 0, .int 0, .ref q2, .ref q3, .ref q4, .ref q5, .ref q6, .ref q7, .ref q8, .ref q9, .ref q10, .ref q11, .ref q12, .ref q13, .int 0, .int (-1), .int (-1), .ref q14, .ref q15, .ref q16, .ref q17, .ref q18, .ref q19, .int 0, .ref q20, .ref q21, .null, .null, .null, .null, .null, .null, .null, .int 0, .int 0, .int 0, .int 0, .int 0, .int 0, .int 0, .int 0, .int 0, .null, .null, .null, .null, .null, .null, .null, .null, .null, .null, .null, .null, .null, .null, .null, .null, .null, .null])), (q1, .inl (g.2.1 0, 400, .inl (fun _ => 0))), (q3, .inl (g.2.1 1, 11, .inl (fun _ => 0))), (q4, .inl (g.2.1 1, 11, .inl (fun _ => 0))), (q5, .inl (g.2.1 1, 44, .inl (fun _ => 0))), (q6, .inl (g.2.1 1, 44, .inl (fun _ => 0))), (q7, .inl (g.2.1 1, 44, .inl (fun _ => 0)))]) X hin hW 0 ciX12 29 rfl (by decide) m_1260 rfl rfl rfl rfl rfl (Nat.le_of_ble_eq_true rfl) rfl dX12_init_190 (fun H locs hW => ?_)
  refine lv_aload_n (pc := 193) hx hb dX12_init_193 rfl (lv_at hl 0 rfl) ?_
  refine lv_sipush (v := 175) (pc := 194) hx hb dX12_init_194 (by decide) ?_
  refine r_newa (a0 := (175, .inl (fun _ => 0))) X hW .int rfl m_47 1 rfl (by intro C h; cases h) (fun _ => rfl) (by decide) (by decide) (Nat.le_of_ble_eq_true rfl) ⟨Nat.le_of_ble_eq_true rfl, Nat.le_of_ble_eq_true rfl⟩ dX12_init_197 (fun q22 H hW => ?_)
  have hW : WD g A s _ _ [(h0, .inr (12, [.int 0, .ref q1, .int 0, .int 0, .int 0, .int 0, .ref q2, .ref q3, .ref q4, .ref q5, .ref q6, .ref q7, .ref q8, .ref q9, .ref q10, .ref q11, .ref q12, .ref q13, .int 0, .int (-1), .int (-1), .ref q14, .ref q15, .ref q16, .ref q17, .ref q18, .ref q19, .int 0, .ref q20, .ref q21, .null, .null, .null, .null, .null, .null, .null, .int 0, .int 0, .int 0, .int 0, .int 0, .int 0, .int 0, .int 0, .int 0, .null, .null, .null, .null, .null, .null, .null, .null, .null, .null, .null, .null, .null, .null, .null, .null, .null, .null])), (q1, .inl (g.2.1 0, 400, .inl (fun _ => 0))), (q3, .inl (g.2.1 1, 11, .inl (fun _ => 0))), (q4, .inl (g.2.1 1, 11, .inl (fun _ => 0))), (q5, .inl (g.2.1 1, 44, .inl (fun _ => 0))), (q6, .inl (g.2.1 1, 44, .inl (fun _ => 0))), (q7, .inl (g.2.1 1, 44, .inl (fun _ => 0)))] := hW.pick [0, 1, 2, 3, 4, 5, 6] rfl rfl
  refine r_putF (ws' := [(h0, .inr (12, [.int 0, .ref q1, .int 0, .int 0, .int 0, .int 0, .ref q2, .ref q3, .ref q4, .ref q5, .ref q6, .ref q7, .ref q8, .ref q9, .ref q10, .ref q11, .ref q12, .ref q13, .int 0, .int (-1), .int (-1), .ref q14, .ref q15, .ref q16, .ref q17, .ref q18, .ref q19, .int 0, .ref q20, .ref q21, .ref q22, .null, .null, .null, .null, .null, .null, .int 0, .int 0, .int 0, .int 0, .int 0, .int 0, .int 0, .int 0, .int 0, .null, .null, .null, .null, .null, .null, .null, .null, .null, .null, .null, .null, .null, .null, .null, .null, .null, .null])), (q1, .inl (g.2.1 0, 400, .inl (fun _ => 0))), (q3, .inl (g.2.1 1, 11, .inl (fun _ => 0))), (q4, .inl (g.2.1 1, 11, .inl (fun _ => 0))), (q5, .inl (g.2.1 1, 44, .inl (fun _ => 0))), (q6, .inl (g.2.1 1, 44, .inl (fun _ => 0))), (q7, .inl (g.2.1 1, 44, .inl (fun _ => 0)))]) X hin hW 0 ciX12 30 rfl (by decide) m_1261 rfl rfl rfl rfl rfl (Nat.le_of_ble_eq_true rfl) rfl dX12_init_199 (fun H locs hW => ?_)
  refine lv_aload_n (pc := 202) hx hb dX12_init_202 rfl (lv_at hl 0 rfl) ?_
  refine lv_sipush (v := 175) (pc := 203) hx hb dX12_init_203 (by decide) ?_
  refine r_newa (a0 := (175, .inl (fun _ => 0))) X hW .int rfl m_47 1 rfl (by intro C h; cases h) (fun _ => rfl) (by decide) (by decide) (Nat.le_of_ble_eq_true rfl) ⟨Nat.le_of_ble_eq_true rfl, Nat.le_of_ble_eq_true rfl⟩ dX12_init_206 (fun q23 H hW => ?_)
  have hW : WD g A s _ _ [(h0, .inr (12, [.int 0, .ref q1, .int 0, .int 0, .int 0, .int 0, .ref q2, .ref q3, .ref q4, .ref q5, .ref q6, .ref q7, .ref q8, .ref q9, .ref q10, .ref q11, .ref q12, .ref q13, .int 0, .int (-1), .int (-1), .ref q14, .ref q15, .ref q16, .ref q17, .ref q18, .ref q19, .int 0, .ref q20, .ref q21, .ref q22, .null, .null, .null, .null, .null, .null, .int 0, .int 0, .int 0, .int 0, .int 0, .int 0, .int 0, .int 0, .int 0, .null, .null, .null, .null, .null, .null, .null, .null, .null, .null, .null, .null, .null, .null, .null, .null, .null, .null])), (q1, .inl (g.2.1 0, 400, .inl (fun _ => 0))), (q3, .inl (g.2.1 1, 11, .inl (fun _ => 0))), (q4, .inl (g.2.1 1, 11, .inl (fun _ => 0))), (q5, .inl (g.2.1 1, 44, .inl (fun _ => 0))), (q6, .inl (g.2.1 1, 44, .inl (fun _ => 0))), (q7, .inl (g.2.1 1, 44, .inl (fun _ => 0)))] := hW.pick [0, 1, 2, 3, 4, 5, 6] rfl rfl
  refine r_putF (ws' := [(h0, .inr (12, [.int 0, .ref q1, .int 0, .int 0, .int 0, .int 0, .ref q2, .ref q3, .ref q4, .ref q5, .ref q6, .ref q7, .ref q8, .ref q9, .ref q10, .ref q11, .ref q12, .ref q13, .int 0, .int (-1), .int (-1), .ref q14, .ref q15, .ref q16, .ref q17, .ref q18, .ref q19, .int 0, .ref q20, .ref q21, .ref q22, .ref q23, .null, .null, .null, .null, .null, .int 0, .int 0, .int 0, .int 0, .int 0, .int 0, .int 0, .int 0, .int 0, .null, .null, .null, .null, .null, .null, .null, .null, .null, .null, .null, .null, .null, .null, .null, .null, .null, .null])), (q1, .inl (g.2.1 0, 400, .inl (fun _ => 0))), (q3, .inl (g.2.1 1, 11, .inl (fun _ => 0))), (q4, .inl (g.2.1 1, 11, .inl (fun _ => 0))), (q5, .inl (g.2.1 1, 44, .inl (fun _ => 0))), (q6, .inl (g.2.1 1, 44, .inl (fun _ => 0))), (q7, .inl (g.2.1 1, 44, .inl (fun _ => 0)))]) X hin hW 0 ciX12 31 rfl (by decide) m_1262 rfl rfl rfl rfl rfl (Nat.le_of_ble_eq_true rfl) rfl dX12_init_208 (fun H locs hW => ?_)
  refine lv_aload_n (pc := 211) hx hb dX12_init_211 rfl (lv_at hl 0 rfl) ?_
  refine lv_bipush (v := 7) (pc := 212) hx hb dX12_init_212 (by decide) ?_
  refine r_newa (a0 := (7, .inl (fun _ => 0))) X hW .int rfl m_47 1 rfl (by intro C h; cases h) (fun _ => rfl) (by decide) (by decide) (Nat.le_of_ble_eq_true rfl) ⟨Nat.le_of_ble_eq_true rfl, Nat.le_of_ble_eq_true rfl⟩ dX12_init_214 (fun q24 H hW => ?_)
  have hW : WD g A s _ _ [(h0, .inr (12, [.int 0, .ref q1, .int 0, .int 0, .int 0, .int 0, .ref q2, .ref q3, .ref q4, .ref q5, .ref q6, .ref q7, .ref q8, .ref q9, .ref q10, .ref q11, .ref q12, .ref q13, .int 0, .int (-1), .int (-1), .ref q14, .ref q15, .ref q16, .ref q17, .ref q18, .ref q19, .int 0, .ref q20, .ref q21, .ref q22, .ref q23, .null, .null, .null, .null, .null, .int 0, .int 0, .int 0, .int 0, .int 0, .int 0, .int 0, .int 0, .int 0, .null, .null, .null, .null, .null, .null, .null, .null, .null, .null, .null, .null, .null, .null, .null, .null, .null, .null])), (q1, .inl (g.2.1 0, 400, .inl (fun _ => 0))), (q3, .inl (g.2.1 1, 11, .inl (fun _ => 0))), (q4, .inl (g.2.1 1, 11, .inl (fun _ => 0))), (q5, .inl (g.2.1 1, 44, .inl (fun _ => 0))), (q6, .inl (g.2.1 1, 44, .inl (fun _ => 0))), (q7, .inl (g.2.1 1, 44, .inl (fun _ => 0)))] := hW.pick [0, 1, 2, 3, 4, 5, 6] rfl rfl
  refine r_putF (ws' := [(h0, .inr (12, [.int 0, .ref q1, .int 0, .int 0, .int 0, .int 0, .ref q2, .ref q3, .ref q4, .ref q5, .ref q6, .ref q7, .ref q8, .ref q9, .ref q10, .ref q11, .ref q12, .ref q13, .int 0, .int (-1), .int (-1), .ref q14, .ref q15, .ref q16, .ref q17, .ref q18, .ref q19, .int 0, .ref q20, .ref q21, .ref q22, .ref q23, .ref q24, .null, .null, .null, .null, .int 0, .int 0, .int 0, .int 0, .int 0, .int 0, .int 0, .int 0, .int 0, .null, .null, .null, .null, .null, .null, .null, .null, .null, .null, .null, .null, .null, .null, .null, .null, .null, .null])), (q1, .inl (g.2.1 0, 400, .inl (fun _ => 0))), (q3, .inl (g.2.1 1, 11, .inl (fun _ => 0))), (q4, .inl (g.2.1 1, 11, .inl (fun _ => 0))), (q5, .inl (g.2.1 1, 44, .inl (fun _ => 0))), (q6, .inl (g.2.1 1, 44, .inl (fun _ => 0))), (q7, .inl (g.2.1 1, 44, .inl (fun _ => 0)))]) X hin hW 0 ciX12 32 rfl (by decide) m_1263 rfl rfl rfl rfl rfl (Nat.le_of_ble_eq_true rfl) rfl dX12_init_216 (fun H locs hW => ?_)
  refine lv_aload_n (pc := 219) hx hb dX12_init_219 rfl (lv_at hl 0 rfl) ?_
  refine lv_bipush (v := 7) (pc := 220) hx hb dX12_init_220 (by decide) ?_
  refine r_newa (a0 := (7, .inl (fun _ => 0))) X hW .int rfl m_47 1 rfl (by intro C h; cases h) (fun _ => rfl) (by decide) (by decide) (Nat.le_of_ble_eq_true rfl) ⟨Nat.le_of_ble_eq_true rfl, Nat.le_of_ble_eq_true rfl⟩ dX12_init_222 (fun q25 H hW => ?_)
  have hW : WD g A s _ _ [(h0, .inr (12, [.int 0, .ref q1, .int 0, .int 0, .int 0, .int 0, .ref q2, .ref q3, .ref q4, .ref q5, .ref q6, .ref q7, .ref q8, .ref q9, .ref q10, .ref q11, .ref q12, .ref q13, .int 0, .int (-1), .int (-1), .ref q14, .ref q15, .ref q16, .ref q17, .ref q18, .ref q19, .int 0, .ref q20, .ref q21, .ref q22, .ref q23, .ref q24, .null, .null, .null, .null, .int 0, .int 0, .int 0, .int 0, .int 0, .int 0, .int 0, .int 0, .int 0, .null, .null, .null, .null, .null, .null, .null, .null, .null, .null, .null, .null, .null, .null, .null, .null, .null, .null])), (q1, .inl (g.2.1 0, 400, .inl (fun _ => 0))), (q3, .inl (g.2.1 1, 11, .inl (fun _ => 0))), (q4, .inl (g.2.1 1, 11, .inl (fun _ => 0))), (q5, .inl (g.2.1 1, 44, .inl (fun _ => 0))), (q6, .inl (g.2.1 1, 44, .inl (fun _ => 0))), (q7, .inl (g.2.1 1, 44, .inl (fun _ => 0)))] := hW.pick [0, 1, 2, 3, 4, 5, 6] rfl rfl
  refine r_putF (ws' := [(h0, .inr (12, [.int 0, .ref q1, .int 0, .int 0, .int 0, .int 0, .ref q2, .ref q3, .ref q4, .ref q5, .ref q6, .ref q7, .ref q8, .ref q9, .ref q10, .ref q11, .ref q12, .ref q13, .int 0, .int (-1), .int (-1), .ref q14, .ref q15, .ref q16, .ref q17, .ref q18, .ref q19, .int 0, .ref q20, .ref q21, .ref q22, .ref q23, .ref q24, .ref q25, .null, .null, .null, .int 0, .int 0, .int 0, .int 0, .int 0, .int 0, .int 0, .int 0, .int 0, .null, .null, .null, .null, .null, .null, .null, .null, .null, .null, .null, .null, .null, .null, .null, .null, .null, .null])), (q1, .inl (g.2.1 0, 400, .inl (fun _ => 0))), (q3, .inl (g.2.1 1, 11, .inl (fun _ => 0))), (q4, .inl (g.2.1 1, 11, .inl (fun _ => 0))), (q5, .inl (g.2.1 1, 44, .inl (fun _ => 0))), (q6, .inl (g.2.1 1, 44, .inl (fun _ => 0))), (q7, .inl (g.2.1 1, 44, .inl (fun _ => 0)))]) X hin hW 0 ciX12 33 rfl (by decide) m_1264 rfl rfl rfl rfl rfl (Nat.le_of_ble_eq_true rfl) rfl dX12_init_224 (fun H locs hW => ?_)
  refine lv_aload_n (pc := 227) hx hb dX12_init_227 rfl (lv_at hl 0 rfl) ?_
  refine lv_ldc (pc := 228) hx hb X.2.2.2.1 (X.2.2.2.2.1 _ m_1229) dX12_init_228 ?_
  refine r_newa (a0 := (425984, .inl (fun _ => 0))) X hW .byte rfl m_1420 0 rfl (by intro C h; cases h) (fun _ => rfl) (by decide) (by decide) (Nat.le_of_ble_eq_true rfl) ⟨Nat.le_of_ble_eq_true rfl, Nat.le_of_ble_eq_true rfl⟩ dX12_init_230 (fun q26 H hW => ?_)
  have hW : WD g A s _ _ [(h0, .inr (12, [.int 0, .ref q1, .int 0, .int 0, .int 0, .int 0, .ref q2, .ref q3, .ref q4, .ref q5, .ref q6, .ref q7, .ref q8, .ref q9, .ref q10, .ref q11, .ref q12, .ref q13, .int 0, .int (-1), .int (-1), .ref q14, .ref q15, .ref q16, .ref q17, .ref q18, .ref q19, .int 0, .ref q20, .ref q21, .ref q22, .ref q23, .ref q24, .ref q25, .null, .null, .null, .int 0, .int 0, .int 0, .int 0, .int 0, .int 0, .int 0, .int 0, .int 0, .null, .null, .null, .null, .null, .null, .null, .null, .null, .null, .null, .null, .null, .null, .null, .null, .null, .null])), (q1, .inl (g.2.1 0, 400, .inl (fun _ => 0))), (q3, .inl (g.2.1 1, 11, .inl (fun _ => 0))), (q4, .inl (g.2.1 1, 11, .inl (fun _ => 0))), (q5, .inl (g.2.1 1, 44, .inl (fun _ => 0))), (q6, .inl (g.2.1 1, 44, .inl (fun _ => 0))), (q7, .inl (g.2.1 1, 44, .inl (fun _ => 0)))] := hW.pick [0, 1, 2, 3, 4, 5, 6] rfl rfl
  refine r_putF (ws' := [(h0, .inr (12, [.int 0, .ref q1, .int 0, .int 0, .int 0, .int 0, .ref q2, .ref q3, .ref q4, .ref q5, .ref q6, .ref q7, .ref q8, .ref q9, .ref q10, .ref q11, .ref q12, .ref q13, .int 0, .int (-1), .int (-1), .ref q14, .ref q15, .ref q16, .ref q17, .ref q18, .ref q19, .int 0, .ref q20, .ref q21, .ref q22, .ref q23, .ref q24, .ref q25, .ref q26, .null, .null, .int 0, .int 0, .int 0, .int 0, .int 0, .int 0, .int 0, .int 0, .int 0, .null, .null, .null, .null, .null, .null, .null, .null, .null, .null, .null, .null, .null, .null, .null, .null, .null, .null])), (q1, .inl (g.2.1 0, 400, .inl (fun _ => 0))), (q3, .inl (g.2.1 1, 11, .inl (fun _ => 0))), (q4, .inl (g.2.1 1, 11, .inl (fun _ => 0))), (q5, .inl (g.2.1 1, 44, .inl (fun _ => 0))), (q6, .inl (g.2.1 1, 44, .inl (fun _ => 0))), (q7, .inl (g.2.1 1, 44, .inl (fun _ => 0)))]) X hin hW 0 ciX12 34 rfl (by decide) m_1265 rfl rfl rfl rfl rfl (Nat.le_of_ble_eq_true rfl) rfl dX12_init_232 (fun H locs hW => ?_)
  refine lv_aload_n (pc := 235) hx hb dX12_init_235 rfl (lv_at hl 0 rfl) ?_
  refine lv_bipush (v := 7) (pc := 236) hx hb dX12_init_236 (by decide) ?_
  refine r_newa (a0 := (7, .inl (fun _ => 0))) X hW .int rfl m_47 1 rfl (by intro C h; cases h) (fun _ => rfl) (by decide) (by decide) (Nat.le_of_ble_eq_true rfl) ⟨Nat.le_of_ble_eq_true rfl, Nat.le_of_ble_eq_true rfl⟩ dX12_init_238 (fun q27 H hW => ?_)
  have hW : WD g A s _ _ [(h0, .inr (12, [.int 0, .ref q1, .int 0, .int 0, .int 0, .int 0, .ref q2, .ref q3, .ref q4, .ref q5, .ref q6, .ref q7, .ref q8, .ref q9, .ref q10, .ref q11, .ref q12, .ref q13, .int 0, .int (-1), .int (-1), .ref q14, .ref q15, .ref q16, .ref q17, .ref q18, .ref q19, .int 0, .ref q20, .ref q21, .ref q22, .ref q23, .ref q24, .ref q25, .ref q26, .null, .null, .int 0, .int 0, .int 0, .int 0, .int 0, .int 0, .int 0, .int 0, .int 0, .null, .null, .null, .null, .null, .null, .null, .null, .null, .null, .null, .null, .null, .null, .null, .null, .null, .null])), (q1, .inl (g.2.1 0, 400, .inl (fun _ => 0))), (q3, .inl (g.2.1 1, 11, .inl (fun _ => 0))), (q4, .inl (g.2.1 1, 11, .inl (fun _ => 0))), (q5, .inl (g.2.1 1, 44, .inl (fun _ => 0))), (q6, .inl (g.2.1 1, 44, .inl (fun _ => 0))), (q7, .inl (g.2.1 1, 44, .inl (fun _ => 0)))] := hW.pick [0, 1, 2, 3, 4, 5, 6] rfl rfl
  refine r_putF (ws' := [(h0, .inr (12, [.int 0, .ref q1, .int 0, .int 0, .int 0, .int 0, .ref q2, .ref q3, .ref q4, .ref q5, .ref q6, .ref q7, .ref q8, .ref q9, .ref q10, .ref q11, .ref q12, .ref q13, .int 0, .int (-1), .int (-1), .ref q14, .ref q15, .ref q16, .ref q17, .ref q18, .ref q19, .int 0, .ref q20, .ref q21, .ref q22, .ref q23, .ref q24, .ref q25, .ref q26, .ref q27, .null, .int 0, .int 0, .int 0, .int 0, .int 0, .int 0, .int 0, .int 0, .int 0, .null, .null, .null, .null, .null, .null, .null, .null, .null, .null, .null, .null, .null, .null, .null, .null, .null, .null])), (q1, .inl (g.2.1 0, 400, .inl (fun _ => 0))), (q3, .inl (g.2.1 1, 11, .inl (fun _ => 0))), (q4, .inl (g.2.1 1, 11, .inl (fun _ => 0))), (q5, .inl (g.2.1 1, 44, .inl (fun _ => 0))), (q6, .inl (g.2.1 1, 44, .inl (fun _ => 0))), (q7, .inl (g.2.1 1, 44, .inl (fun _ => 0)))]) X hin hW 0 ciX12 35 rfl (by decide) m_1266 rfl rfl rfl rfl rfl (Nat.le_of_ble_eq_true rfl) rfl dX12_init_240 (fun H locs hW => ?_)
  refine lv_aload_n (pc := 243) hx hb dX12_init_243 rfl (lv_at hl 0 rfl) ?_
  refine lv_bipush (v := 7) (pc := 244) hx hb dX12_init_244 (by decide) ?_
  refine r_newa (a0 := (7, .inl (fun _ => 0))) X hW .int rfl m_47 1 rfl (by intro C h; cases h) (fun _ => rfl) (by decide) (by decide) (Nat.le_of_ble_eq_true rfl) ⟨Nat.le_of_ble_eq_true rfl, Nat.le_of_ble_eq_true rfl⟩ dX12_init_246 (fun q28 H hW => ?_)
  have hW : WD g A s _ _ [(h0, .inr (12, [.int 0, .ref q1, .int 0, .int 0, .int 0, .int 0, .ref q2, .ref q3, .ref q4, .ref q5, .ref q6, .ref q7, .ref q8, .ref q9, .ref q10, .ref q11, .ref q12, .ref q13, .int 0, .int (-1), .int (-1), .ref q14, .ref q15, .ref q16, .ref q17, .ref q18, .ref q19, .int 0, .ref q20, .ref q21, .ref q22, .ref q23, .ref q24, .ref q25, .ref q26, .ref q27, .null, .int 0, .int 0, .int 0, .int 0, .int 0, .int 0, .int 0, .int 0, .int 0, .null, .null, .null, .null, .null, .null, .null, .null, .null, .null, .null, .null, .null, .null, .null, .null, .null, .null])), (q1, .inl (g.2.1 0, 400, .inl (fun _ => 0))), (q3, .inl (g.2.1 1, 11, .inl (fun _ => 0))), (q4, .inl (g.2.1 1, 11, .inl (fun _ => 0))), (q5, .inl (g.2.1 1, 44, .inl (fun _ => 0))), (q6, .inl (g.2.1 1, 44, .inl (fun _ => 0))), (q7, .inl (g.2.1 1, 44, .inl (fun _ => 0)))] := hW.pick [0, 1, 2, 3, 4, 5, 6] rfl rfl
  refine r_putF (ws' := [(h0, .inr (12, [.int 0, .ref q1, .int 0, .int 0, .int 0, .int 0, .ref q2, .ref q3, .ref q4, .ref q5, .ref q6, .ref q7, .ref q8, .ref q9, .ref q10, .ref q11, .ref q12, .ref q13, .int 0, .int (-1), .int (-1), .ref q14, .ref q15, .ref q16, .ref q17, .ref q18, .ref q19, .int 0, .ref q20, .ref q21, .ref q22, .ref q23, .ref q24, .ref q25, .ref q26, .ref q27, .ref q28, .int 0, .int 0, .int 0, .int 0, .int 0, .int 0, .int 0, .int 0, .int 0, .null, .null, .null, .null, .null, .null, .null, .null, .null, .null, .null, .null, .null, .null, .null, .null, .null, .null])), (q1, .inl (g.2.1 0, 400, .inl (fun _ => 0))), (q3, .inl (g.2.1 1, 11, .inl (fun _ => 0))), (q4, .inl (g.2.1 1, 11, .inl (fun _ => 0))), (q5, .inl (g.2.1 1, 44, .inl (fun _ => 0))), (q6, .inl (g.2.1 1, 44, .inl (fun _ => 0))), (q7, .inl (g.2.1 1, 44, .inl (fun _ => 0)))]) X hin hW 0 ciX12 36 rfl (by decide) m_1267 rfl rfl rfl rfl rfl (Nat.le_of_ble_eq_true rfl) rfl dX12_init_248 (fun H locs hW => ?_)
  refine lv_aload_n (pc := 251) hx hb dX12_init_251 rfl (lv_at hl 0 rfl) ?_
  refine lv_bipush (v := 112) (pc := 252) hx hb dX12_init_252 (by decide) ?_
  refine r_newa (a0 := (112, .inl (fun _ => 0))) X hW .int rfl m_47 1 rfl (by intro C h; cases h) (fun _ => rfl) (by decide) (by decide) (Nat.le_of_ble_eq_true rfl) ⟨Nat.le_of_ble_eq_true rfl, Nat.le_of_ble_eq_true rfl⟩ dX12_init_254 (fun q29 H hW => ?_)
  have hW : WD g A s _ _ [(h0, .inr (12, [.int 0, .ref q1, .int 0, .int 0, .int 0, .int 0, .ref q2, .ref q3, .ref q4, .ref q5, .ref q6, .ref q7, .ref q8, .ref q9, .ref q10, .ref q11, .ref q12, .ref q13, .int 0, .int (-1), .int (-1), .ref q14, .ref q15, .ref q16, .ref q17, .ref q18, .ref q19, .int 0, .ref q20, .ref q21, .ref q22, .ref q23, .ref q24, .ref q25, .ref q26, .ref q27, .ref q28, .int 0, .int 0, .int 0, .int 0, .int 0, .int 0, .int 0, .int 0, .int 0, .null, .null, .null, .null, .null, .null, .null, .null, .null, .null, .null, .null, .null, .null, .null, .null, .null, .null])), (q1, .inl (g.2.1 0, 400, .inl (fun _ => 0))), (q3, .inl (g.2.1 1, 11, .inl (fun _ => 0))), (q4, .inl (g.2.1 1, 11, .inl (fun _ => 0))), (q5, .inl (g.2.1 1, 44, .inl (fun _ => 0))), (q6, .inl (g.2.1 1, 44, .inl (fun _ => 0))), (q7, .inl (g.2.1 1, 44, .inl (fun _ => 0)))] := hW.pick [0, 1, 2, 3, 4, 5, 6] rfl rfl
  refine r_putF (ws' := [(h0, .inr (12, [.int 0, .ref q1, .int 0, .int 0, .int 0, .int 0, .ref q2, .ref q3, .ref q4, .ref q5, .ref q6, .ref q7, .ref q8, .ref q9, .ref q10, .ref q11, .ref q12, .ref q13, .int 0, .int (-1), .int (-1), .ref q14, .ref q15, .ref q16, .ref q17, .ref q18, .ref q19, .int 0, .ref q20, .ref q21, .ref q22, .ref q23, .ref q24, .ref q25, .ref q26, .ref q27, .ref q28, .int 0, .int 0, .int 0, .int 0, .int 0, .int 0, .int 0, .int 0, .int 0, .ref q29, .null, .null, .null, .null, .null, .null, .null, .null, .null, .null, .null, .null, .null, .null, .null, .null, .null])), (q1, .inl (g.2.1 0, 400, .inl (fun _ => 0))), (q3, .inl (g.2.1 1, 11, .inl (fun _ => 0))), (q4, .inl (g.2.1 1, 11, .inl (fun _ => 0))), (q5, .inl (g.2.1 1, 44, .inl (fun _ => 0))), (q6, .inl (g.2.1 1, 44, .inl (fun _ => 0))), (q7, .inl (g.2.1 1, 44, .inl (fun _ => 0)))]) X hin hW 0 ciX12 46 rfl (by decide) m_1273 rfl rfl rfl rfl rfl (Nat.le_of_ble_eq_true rfl) rfl dX12_init_256 (fun H locs hW => ?_)
  refine lv_aload_n (pc := 259) hx hb dX12_init_259 rfl (lv_at hl 0 rfl) ?_
  refine lv_bipush (v := 16) (pc := 260) hx hb dX12_init_260 (by decide) ?_
  refine r_newa (a0 := (16, .inl (fun _ => 0))) X hW .int rfl m_47 1 rfl (by intro C h; cases h) (fun _ => rfl) (by decide) (by decide) (Nat.le_of_ble_eq_true rfl) ⟨Nat.le_of_ble_eq_true rfl, Nat.le_of_ble_eq_true rfl⟩ dX12_init_262 (fun q30 H hW => ?_)
  have hW : WD g A s _ _ [(h0, .inr (12, [.int 0, .ref q1, .int 0, .int 0, .int 0, .int 0, .ref q2, .ref q3, .ref q4, .ref q5, .ref q6, .ref q7, .ref q8, .ref q9, .ref q10, .ref q11, .ref q12, .ref q13, .int 0, .int (-1), .int (-1), .ref q14, .ref q15, .ref q16, .ref q17, .ref q18, .ref q19, .int 0, .ref q20, .ref q21, .ref q22, .ref q23, .ref q24, .ref q25, .ref q26, .ref q27, .ref q28, .int 0, .int 0, .int 0, .int 0, .int 0, .int 0, .int 0, .int 0, .int 0, .ref q29, .null, .null, .null, .null, .null, .null, .null, .null, .null, .null, .null, .null, .null, .null, .null, .null, .null])), (q1, .inl (g.2.1 0, 400, .inl (fun _ => 0))), (q3, .inl (g.2.1 1, 11, .inl (fun _ => 0))), (q4, .inl (g.2.1 1, 11, .inl (fun _ => 0))), (q5, .inl (g.2.1 1, 44, .inl (fun _ => 0))), (q6, .inl (g.2.1 1, 44, .inl (fun _ => 0))), (q7, .inl (g.2.1 1, 44, .inl (fun _ => 0)))] := hW.pick [0, 1, 2, 3, 4, 5, 6] rfl rfl
  refine r_putF (ws' := [(h0, .inr (12, [.int 0, .ref q1, .int 0, .int 0, .int 0, .int 0, .ref q2, .ref q3, .ref q4, .ref q5, .ref q6, .ref q7, .ref q8, .ref q9, .ref q10, .ref q11, .ref q12, .ref q13, .int 0, .int (-1), .int (-1), .ref q14, .ref q15, .ref q16, .ref q17, .ref q18, .ref q19, .int 0, .ref q20, .ref q21, .ref q22, .ref q23, .ref q24, .ref q25, .ref q26, .ref q27, .ref q28, .int 0, .int 0, .int 0, .int 0, .int 0, .int 0, .int 0, .int 0, .int 0, .ref q29, .ref q30, .null, .null, .null, .null, .null, .null, .null, .null, .null, .null, .null, .null, .null, .null, .null, .null])), (q1, .inl (g.2.1 0, 400, .inl (fun _ => 0))), (q3, .inl (g.2.1 1, 11, .inl (fun _ => 0))), (q4, .inl (g.2.1 1, 11, .inl (fun _ => 0))), (q5, .inl (g.2.1 1, 44, .inl (fun _ => 0))), (q6, .inl (g.2.1 1, 44, .inl (fun _ => 0))), (q7, .inl (g.2.1 1, 44, .inl (fun _ => 0)))]) X hin hW 0 ciX12 47 rfl (by decide) m_1274 rfl rfl rfl rfl rfl (Nat.le_of_ble_eq_true rfl) rfl dX12_init_264 (fun H locs hW => ?_)
  refine lv_aload_n (pc := 267) hx hb dX12_init_267 rfl (lv_at hl 0 rfl) ?_
  refine lv_bipush (v := 12) (pc := 268) hx hb dX12_init_268 (by decide) ?_
  refine r_newa (a0 := (12, .inl (fun _ => 0))) X hW .boolean rfl m_109 3 rfl (by intro C h; cases h) (fun _ => rfl) (by decide) (by decide) (Nat.le_of_ble_eq_true rfl) ⟨Nat.le_of_ble_eq_true rfl, Nat.le_of_ble_eq_true rfl⟩ dX12_init_270 (fun q31 H hW => ?_)
  have hW : WD g A s _ _ [(h0, .inr (12, [.int 0, .ref q1, .int 0, .int 0, .int 0, .int 0, .ref q2, .ref q3, .ref q4, .ref q5, .ref q6, .ref q7, .ref q8, .ref q9, .ref q10, .ref q11, .ref q12, .ref q13, .int 0, .int (-1), .int (-1), .ref q14, .ref q15, .ref q16, .ref q17, .ref q18, .ref q19, .int 0, .ref q20, .ref q21, .ref q22, .ref q23, .ref q24, .ref q25, .ref q26, .ref q27, .ref q28, .int 0, .int 0, .int 0, .int 0, .int 0, .int 0, .int 0, .int 0, .int 0, .ref q29, .ref q30, .null, .null, .null, .null, .null, .null, .null, .null, .null, .null, .null, .null, .null, .null, .null, .null])), (q1, .inl (g.2.1 0, 400, .inl (fun _ => 0))), (q3, .inl (g.2.1 1, 11, .inl (fun _ => 0))), (q4, .inl (g.2.1 1, 11, .inl (fun _ => 0))), (q5, .inl (g.2.1 1, 44, .inl (fun _ => 0))), (q6, .inl (g.2.1 1, 44, .inl (fun _ => 0))), (q7, .inl (g.2.1 1, 44, .inl (fun _ => 0)))] := hW.pick [0, 1, 2, 3, 4, 5, 6] rfl rfl
  refine r_putF (ws' := [(h0, .inr (12, [.int 0, .ref q1, .int 0, .int 0, .int 0, .int 0, .ref q2, .ref q3, .ref q4, .ref q5, .ref q6, .ref q7, .ref q8, .ref q9, .ref q10, .ref q11, .ref q12, .ref q13, .int 0, .int (-1), .int (-1), .ref q14, .ref q15, .ref q16, .ref q17, .ref q18, .ref q19, .int 0, .ref q20, .ref q21, .ref q22, .ref q23, .ref q24, .ref q25, .ref q26, .ref q27, .ref q28, .int 0, .int 0, .int 0, .int 0, .int 0, .int 0, .int 0, .int 0, .int 0, .ref q29, .ref q30, .ref q31, .null, .null, .null, .null, .null, .null, .null, .null, .null, .null, .null, .null, .null, .null, .null])), (q1, .inl (g.2.1 0, 400, .inl (fun _ => 0))), (q3, .inl (g.2.1 1, 11, .inl (fun _ => 0))), (q4, .inl (g.2.1 1, 11, .inl (fun _ => 0))), (q5, .inl (g.2.1 1, 44, .inl (fun _ => 0))), (q6, .inl (g.2.1 1, 44, .inl (fun _ => 0))), (q7, .inl (g.2.1 1, 44, .inl (fun _ => 0)))]) X hin hW 0 ciX12 48 rfl (by decide) m_1275 rfl rfl rfl rfl rfl (Nat.le_of_ble_eq_true rfl) rfl dX12_init_272 (fun H locs hW => ?_)
  refine lv_aload_n (pc := 275) hx hb dX12_init_275 rfl (lv_at hl 0 rfl) ?_
  refine lv_ldc (pc := 276) hx hb X.2.2.2.1 (X.2.2.2.2.1 _ m_1230) dX12_init_276 ?_
  refine r_newa (a0 := (65536, .inl (fun _ => 0))) X hW .int rfl m_47 1 rfl (by intro C h; cases h) (fun _ => rfl) (by decide) (by decide) (Nat.le_of_ble_eq_true rfl) ⟨Nat.le_of_ble_eq_true rfl, Nat.le_of_ble_eq_true rfl⟩ dX12_init_278 (fun q32 H hW => ?_)
  have hW : WD g A s _ _ [(h0, .inr (12, [.int 0, .ref q1, .int 0, .int 0, .int 0, .int 0, .ref q2, .ref q3, .ref q4, .ref q5, .ref q6, .ref q7, .ref q8, .ref q9, .ref q10, .ref q11, .ref q12, .ref q13, .int 0, .int (-1), .int (-1), .ref q14, .ref q15, .ref q16, .ref q17, .ref q18, .ref q19, .int 0, .ref q20, .ref q21, .ref q22, .ref q23, .ref q24, .ref q25, .ref q26, .ref q27, .ref q28, .int 0, .int 0, .int 0, .int 0, .int 0, .int 0, .int 0, .int 0, .int 0, .ref q29, .ref q30, .ref q31, .null, .null, .null, .null, .null, .null, .null, .null, .null, .null, .null, .null, .null, .null, .null])), (q1, .inl (g.2.1 0, 400, .inl (fun _ => 0))), (q3, .inl (g.2.1 1, 11, .inl (fun _ => 0))), (q4, .inl (g.2.1 1, 11, .inl (fun _ => 0))), (q5, .inl (g.2.1 1, 44, .inl (fun _ => 0))), (q6, .inl (g.2.1 1, 44, .inl (fun _ => 0))), (q7, .inl (g.2.1 1, 44, .inl (fun _ => 0)))] := hW.pick [0, 1, 2, 3, 4, 5, 6] rfl rfl
  refine r_putF (ws' := [(h0, .inr (12, [.int 0, .ref q1, .int 0, .int 0, .int 0, .int 0, .ref q2, .ref q3, .ref q4, .ref q5, .ref q6, .ref q7, .ref q8, .ref q9, .ref q10, .ref q11, .ref q12, .ref q13, .int 0, .int (-1), .int (-1), .ref q14, .ref q15, .ref q16, .ref q17, .ref q18, .ref q19, .int 0, .ref q20, .ref q21, .ref q22, .ref q23, .ref q24, .ref q25, .ref q26, .ref q27, .ref q28, .int 0, .int 0, .int 0, .int 0, .int 0, .int 0, .int 0, .int 0, .int 0, .ref q29, .ref q30, .ref q31, .ref q32, .null, .null, .null, .null, .null, .null, .null, .null, .null, .null, .null, .null, .null, .null])), (q1, .inl (g.2.1 0, 400, .inl (fun _ => 0))), (q3, .inl (g.2.1 1, 11, .inl (fun _ => 0))), (q4, .inl (g.2.1 1, 11, .inl (fun _ => 0))), (q5, .inl (g.2.1 1, 44, .inl (fun _ => 0))), (q6, .inl (g.2.1 1, 44, .inl (fun _ => 0))), (q7, .inl (g.2.1 1, 44, .inl (fun _ => 0)))]) X hin hW 0 ciX12 49 rfl (by decide) m_1276 rfl rfl rfl rfl rfl (Nat.le_of_ble_eq_true rfl) rfl dX12_init_280 (fun H locs hW => ?_)
  refine lv_aload_n (pc := 283) hx hb dX12_init_283 rfl (lv_at hl 0 rfl) ?_
  refine lv_ldc (pc := 284) hx hb X.2.2.2.1 (X.2.2.2.2.1 _ m_1230) dX12_init_284 ?_
  refine r_newa (a0 := (65536, .inl (fun _ => 0))) X hW .int rfl m_47 1 rfl (by intro C h; cases h) (fun _ => rfl) (by decide) (by decide) (Nat.le_of_ble_eq_true rfl) ⟨Nat.le_of_ble_eq_true rfl, Nat.le_of_ble_eq_true rfl⟩ dX12_init_286 (fun q33 H hW => ?_)
  have hW : WD g A s _ _ [(h0, .inr (12, [.int 0, .ref q1, .int 0, .int 0, .int 0, .int 0, .ref q2, .ref q3, .ref q4, .ref q5, .ref q6, .ref q7, .ref q8, .ref q9, .ref q10, .ref q11, .ref q12, .ref q13, .int 0, .int (-1), .int (-1), .ref q14, .ref q15, .ref q16, .ref q17, .ref q18, .ref q19, .int 0, .ref q20, .ref q21, .ref q22, .ref q23, .ref q24, .ref q25, .ref q26, .ref q27, .ref q28, .int 0, .int 0, .int 0, .int 0, .int 0, .int 0, .int 0, .int 0, .int 0, .ref q29, .ref q30, .ref q31, .ref q32, .null, .null, .null, .null, .null, .null, .null, .null, .null, .null, .null, .null, .null, .null])), (q1, .inl (g.2.1 0, 400, .inl (fun _ => 0))), (q3, .inl (g.2.1 1, 11, .inl (fun _ => 0))), (q4, .inl (g.2.1 1, 11, .inl (fun _ => 0))), (q5, .inl (g.2.1 1, 44, .inl (fun _ => 0))), (q6, .inl (g.2.1 1, 44, .inl (fun _ => 0))), (q7, .inl (g.2.1 1, 44, .inl (fun _ => 0)))] := hW.pick [0, 1, 2, 3, 4, 5, 6] rfl rfl
  refine r_putF (ws' := [(h0, .inr (12, [.int 0, .ref q1, .int 0, .int 0, .int 0, .int 0, .ref q2, .ref q3, .ref q4, .ref q5, .ref q6, .ref q7, .ref q8, .ref q9, .ref q10, .ref q11, .ref q12, .ref q13, .int 0, .int (-1), .int (-1), .ref q14, .ref q15, .ref q16, .ref q17, .ref q18, .ref q19, .int 0, .ref q20, .ref q21, .ref q22, .ref q23, .ref q24, .ref q25, .ref q26, .ref q27, .ref q28, .int 0, .int 0, .int 0, .int 0, .int 0, .int 0, .int 0, .int 0, .int 0, .ref q29, .ref q30, .ref q31, .ref q32, .ref q33, .null, .null, .null, .null, .null, .null, .null, .null, .null, .null, .null, .null, .null])), (q1, .inl (g.2.1 0, 400, .inl (fun _ => 0))), (q3, .inl (g.2.1 1, 11, .inl (fun _ => 0))), (q4, .inl (g.2.1 1, 11, .inl (fun _ => 0))), (q5, .inl (g.2.1 1, 44, .inl (fun _ => 0))), (q6, .inl (g.2.1 1, 44, .inl (fun _ => 0))), (q7, .inl (g.2.1 1, 44, .inl (fun _ => 0)))]) X hin hW 0 ciX12 50 rfl (by decide) m_1277 rfl rfl rfl rfl rfl (Nat.le_of_ble_eq_true rfl) rfl dX12_init_288 (fun H locs hW => ?_)
  refine lv_aload_n (pc := 291) hx hb dX12_init_291 rfl (lv_at hl 0 rfl) ?_
  refine lv_bipush (v := 9) (pc := 292) hx hb dX12_init_292 (by decide) ?_
  refine r_newa (a0 := (9, .inl (fun _ => 0))) X hW .int rfl m_47 1 rfl (by intro C h; cases h) (fun _ => rfl) (by decide) (by decide) (Nat.le_of_ble_eq_true rfl) ⟨Nat.le_of_ble_eq_true rfl, Nat.le_of_ble_eq_true rfl⟩ dX12_init_294 (fun q34 H hW => ?_)
  have hW : WD g A s _ _ [(h0, .inr (12, [.int 0, .ref q1, .int 0, .int 0, .int 0, .int 0, .ref q2, .ref q3, .ref q4, .ref q5, .ref q6, .ref q7, .ref q8, .ref q9, .ref q10, .ref q11, .ref q12, .ref q13, .int 0, .int (-1), .int (-1), .ref q14, .ref q15, .ref q16, .ref q17, .ref q18, .ref q19, .int 0, .ref q20, .ref q21, .ref q22, .ref q23, .ref q24, .ref q25, .ref q26, .ref q27, .ref q28, .int 0, .int 0, .int 0, .int 0, .int 0, .int 0, .int 0, .int 0, .int 0, .ref q29, .ref q30, .ref q31, .ref q32, .ref q33, .null, .null, .null, .null, .null, .null, .null, .null, .null, .null, .null, .null, .null])), (q1, .inl (g.2.1 0, 400, .inl (fun _ => 0))), (q3, .inl (g.2.1 1, 11, .inl (fun _ => 0))), (q4, .inl (g.2.1 1, 11, .inl (fun _ => 0))), (q5, .inl (g.2.1 1, 44, .inl (fun _ => 0))), (q6, .inl (g.2.1 1, 44, .inl (fun _ => 0))), (q7, .inl (g.2.1 1, 44, .inl (fun _ => 0)))] := hW.pick [0, 1, 2, 3, 4, 5, 6] rfl rfl
  refine r_putF (ws' := [(h0, .inr (12, [.int 0, .ref q1, .int 0, .int 0, .int 0, .int 0, .ref q2, .ref q3, .ref q4, .ref q5, .ref q6, .ref q7, .ref q8, .ref q9, .ref q10, .ref q11, .ref q12, .ref q13, .int 0, .int (-1), .int (-1), .ref q14, .ref q15, .ref q16, .ref q17, .ref q18, .ref q19, .int 0, .ref q20, .ref q21, .ref q22, .ref q23, .ref q24, .ref q25, .ref q26, .ref q27, .ref q28, .int 0, .int 0, .int 0, .int 0, .int 0, .int 0, .int 0, .int 0, .int 0, .ref q29, .ref q30, .ref q31, .ref q32, .ref q33, .ref q34, .null, .null, .null, .null, .null, .null, .null, .null, .null, .null, .null, .null])), (q1, .inl (g.2.1 0, 400, .inl (fun _ => 0))), (q3, .inl (g.2.1 1, 11, .inl (fun _ => 0))), (q4, .inl (g.2.1 1, 11, .inl (fun _ => 0))), (q5, .inl (g.2.1 1, 44, .inl (fun _ => 0))), (q6, .inl (g.2.1 1, 44, .inl (fun _ => 0))), (q7, .inl (g.2.1 1, 44, .inl (fun _ => 0)))]) X hin hW 0 ciX12 51 rfl (by decide) m_1278 rfl rfl rfl rfl rfl (Nat.le_of_ble_eq_true rfl) rfl dX12_init_296 (fun H locs hW => ?_)
  refine lv_aload_n (pc := 299) hx hb dX12_init_299 rfl (lv_at hl 0 rfl) ?_
  refine lv_sipush (v := 420) (pc := 300) hx hb dX12_init_300 (by decide) ?_
  refine r_newa (a0 := (420, .inl (fun _ => 0))) X hW .int rfl m_47 1 rfl (by intro C h; cases h) (fun _ => rfl) (by decide) (by decide) (Nat.le_of_ble_eq_true rfl) ⟨Nat.le_of_ble_eq_true rfl, Nat.le_of_ble_eq_true rfl⟩ dX12_init_303 (fun q35 H hW => ?_)
  have hW : WD g A s _ _ [(h0, .inr (12, [.int 0, .ref q1, .int 0, .int 0, .int 0, .int 0, .ref q2, .ref q3, .ref q4, .ref q5, .ref q6, .ref q7, .ref q8, .ref q9, .ref q10, .ref q11, .ref q12, .ref q13, .int 0, .int (-1), .int (-1), .ref q14, .ref q15, .ref q16, .ref q17, .ref q18, .ref q19, .int 0, .ref q20, .ref q21, .ref q22, .ref q23, .ref q24, .ref q25, .ref q26, .ref q27, .ref q28, .int 0, .int 0, .int 0, .int 0, .int 0, .int 0, .int 0, .int 0, .int 0, .ref q29, .ref q30, .ref q31, .ref q32, .ref q33, .ref q34, .null, .null, .null, .null, .null, .null, .null, .null, .null, .null, .null, .null])), (q1, .inl (g.2.1 0, 400, .inl (fun _ => 0))), (q3, .inl (g.2.1 1, 11, .inl (fun _ => 0))), (q4, .inl (g.2.1 1, 11, .inl (fun _ => 0))), (q5, .inl (g.2.1 1, 44, .inl (fun _ => 0))), (q6, .inl (g.2.1 1, 44, .inl (fun _ => 0))), (q7, .inl (g.2.1 1, 44, .inl (fun _ => 0)))] := hW.pick [0, 1, 2, 3, 4, 5, 6] rfl rfl
  refine r_putF (ws' := [(h0, .inr (12, [.int 0, .ref q1, .int 0, .int 0, .int 0, .int 0, .ref q2, .ref q3, .ref q4, .ref q5, .ref q6, .ref q7, .ref q8, .ref q9, .ref q10, .ref q11, .ref q12, .ref q13, .int 0, .int (-1), .int (-1), .ref q14, .ref q15, .ref q16, .ref q17, .ref q18, .ref q19, .int 0, .ref q20, .ref q21, .ref q22, .ref q23, .ref q24, .ref q25, .ref q26, .ref q27, .ref q28, .int 0, .int 0, .int 0, .int 0, .int 0, .int 0, .int 0, .int 0, .int 0, .ref q29, .ref q30, .ref q31, .ref q32, .ref q33, .ref q34, .ref q35, .null, .null, .null, .null, .null, .null, .null, .null, .null, .null, .null])), (q1, .inl (g.2.1 0, 400, .inl (fun _ => 0))), (q3, .inl (g.2.1 1, 11, .inl (fun _ => 0))), (q4, .inl (g.2.1 1, 11, .inl (fun _ => 0))), (q5, .inl (g.2.1 1, 44, .inl (fun _ => 0))), (q6, .inl (g.2.1 1, 44, .inl (fun _ => 0))), (q7, .inl (g.2.1 1, 44, .inl (fun _ => 0)))]) X hin hW 0 ciX12 52 rfl (by decide) m_1279 rfl rfl rfl rfl rfl (Nat.le_of_ble_eq_true rfl) rfl dX12_init_305 (fun H locs hW => ?_)
  refine lv_aload_n (pc := 308) hx hb dX12_init_308 rfl (lv_at hl 0 rfl) ?_
  refine lv_bipush (v := 77) (pc := 309) hx hb dX12_init_309 (by decide) ?_
  refine r_newa (a0 := (77, .inl (fun _ => 0))) X hW .int rfl m_47 1 rfl (by intro C h; cases h) (fun _ => rfl) (by decide) (by decide) (Nat.le_of_ble_eq_true rfl) ⟨Nat.le_of_ble_eq_true rfl, Nat.le_of_ble_eq_true rfl⟩ dX12_init_311 (fun q36 H hW => ?_)
  have hW : WD g A s _ _ [(h0, .inr (12, [.int 0, .ref q1, .int 0, .int 0, .int 0, .int 0, .ref q2, .ref q3, .ref q4, .ref q5, .ref q6, .ref q7, .ref q8, .ref q9, .ref q10, .ref q11, .ref q12, .ref q13, .int 0, .int (-1), .int (-1), .ref q14, .ref q15, .ref q16, .ref q17, .ref q18, .ref q19, .int 0, .ref q20, .ref q21, .ref q22, .ref q23, .ref q24, .ref q25, .ref q26, .ref q27, .ref q28, .int 0, .int 0, .int 0, .int 0, .int 0, .int 0, .int 0, .int 0, .int 0, .ref q29, .ref q30, .ref q31, .ref q32, .ref q33, .ref q34, .ref q35, .null, .null, .null, .null, .null, .null, .null, .null, .null, .null, .null])), (q1, .inl (g.2.1 0, 400, .inl (fun _ => 0))), (q3, .inl (g.2.1 1, 11, .inl (fun _ => 0))), (q4, .inl (g.2.1 1, 11, .inl (fun _ => 0))), (q5, .inl (g.2.1 1, 44, .inl (fun _ => 0))), (q6, .inl (g.2.1 1, 44, .inl (fun _ => 0))), (q7, .inl (g.2.1 1, 44, .inl (fun _ => 0)))] := hW.pick [0, 1, 2, 3, 4, 5, 6] rfl rfl
  refine r_putF (ws' := [(h0, .inr (12, [.int 0, .ref q1, .int 0, .int 0, .int 0, .int 0, .ref q2, .ref q3, .ref q4, .ref q5, .ref q6, .ref q7, .ref q8, .ref q9, .ref q10, .ref q11, .ref q12, .ref q13, .int 0, .int (-1), .int (-1), .ref q14, .ref q15, .ref q16, .ref q17, .ref q18, .ref q19, .int 0, .ref q20, .ref q21, .ref q22, .ref q23, .ref q24, .ref q25, .ref q26, .ref q27, .ref q28, .int 0, .int 0, .int 0, .int 0, .int 0, .int 0, .int 0, .int 0, .int 0, .ref q29, .ref q30, .ref q31, .ref q32, .ref q33, .ref q34, .ref q35, .ref q36, .null, .null, .null, .null, .null, .null, .null, .null, .null, .null])), (q1, .inl (g.2.1 0, 400, .inl (fun _ => 0))), (q3, .inl (g.2.1 1, 11, .inl (fun _ => 0))), (q4, .inl (g.2.1 1, 11, .inl (fun _ => 0))), (q5, .inl (g.2.1 1, 44, .inl (fun _ => 0))), (q6, .inl (g.2.1 1, 44, .inl (fun _ => 0))), (q7, .inl (g.2.1 1, 44, .inl (fun _ => 0)))]) X hin hW 0 ciX12 53 rfl (by decide) m_1280 rfl rfl rfl rfl rfl (Nat.le_of_ble_eq_true rfl) rfl dX12_init_313 (fun H locs hW => ?_)
  refine lv_aload_n (pc := 316) hx hb dX12_init_316 rfl (lv_at hl 0 rfl) ?_
  refine lv_bipush (v := 7) (pc := 317) hx hb dX12_init_317 (by decide) ?_
  refine r_newa (a0 := (7, .inl (fun _ => 0))) X hW .int rfl m_47 1 rfl (by intro C h; cases h) (fun _ => rfl) (by decide) (by decide) (Nat.le_of_ble_eq_true rfl) ⟨Nat.le_of_ble_eq_true rfl, Nat.le_of_ble_eq_true rfl⟩ dX12_init_319 (fun q37 H hW => ?_)
  have hW : WD g A s _ _ [(h0, .inr (12, [.int 0, .ref q1, .int 0, .int 0, .int 0, .int 0, .ref q2, .ref q3, .ref q4, .ref q5, .ref q6, .ref q7, .ref q8, .ref q9, .ref q10, .ref q11, .ref q12, .ref q13, .int 0, .int (-1), .int (-1), .ref q14, .ref q15, .ref q16, .ref q17, .ref q18, .ref q19, .int 0, .ref q20, .ref q21, .ref q22, .ref q23, .ref q24, .ref q25, .ref q26, .ref q27, .ref q28, .int 0, .int 0, .int 0, .int 0, .int 0, .int 0, .int 0, .int 0, .int 0, .ref q29, .ref q30, .ref q31, .ref q32, .ref q33, .ref q34, .ref q35, .ref q36, .null, .null, .null, .null, .null, .null, .null, .null, .null, .null])), (q1, .inl (g.2.1 0, 400, .inl (fun _ => 0))), (q3, .inl (g.2.1 1, 11, .inl (fun _ => 0))), (q4, .inl (g.2.1 1, 11, .inl (fun _ => 0))), (q5, .inl (g.2.1 1, 44, .inl (fun _ => 0))), (q6, .inl (g.2.1 1, 44, .inl (fun _ => 0))), (q7, .inl (g.2.1 1, 44, .inl (fun _ => 0)))] := hW.pick [0, 1, 2, 3, 4, 5, 6] rfl rfl
  refine r_putF (ws' := [(h0, .inr (12, [.int 0, .ref q1, .int 0, .int 0, .int 0, .int 0, .ref q2, .ref q3, .ref q4, .ref q5, .ref q6, .ref q7, .ref q8, .ref q9, .ref q10, .ref q11, .ref q12, .ref q13, .int 0, .int (-1), .int (-1), .ref q14, .ref q15, .ref q16, .ref q17, .ref q18, .ref q19, .int 0, .ref q20, .ref q21, .ref q22, .ref q23, .ref q24, .ref q25, .ref q26, .ref q27, .ref q28, .int 0, .int 0, .int 0, .int 0, .int 0, .int 0, .int 0, .int 0, .int 0, .ref q29, .ref q30, .ref q31, .ref q32, .ref q33, .ref q34, .ref q35, .ref q36, .ref q37, .null, .null, .null, .null, .null, .null, .null, .null, .null])), (q1, .inl (g.2.1 0, 400, .inl (fun _ => 0))), (q3, .inl (g.2.1 1, 11, .inl (fun _ => 0))), (q4, .inl (g.2.1 1, 11, .inl (fun _ => 0))), (q5, .inl (g.2.1 1, 44, .inl (fun _ => 0))), (q6, .inl (g.2.1 1, 44, .inl (fun _ => 0))), (q7, .inl (g.2.1 1, 44, .inl (fun _ => 0)))]) X hin hW 0 ciX12 54 rfl (by decide) m_1281 rfl rfl rfl rfl rfl (Nat.le_of_ble_eq_true rfl) rfl dX12_init_321 (fun H locs hW => ?_)
  refine lv_aload_n (pc := 324) hx hb dX12_init_324 rfl (lv_at hl 0 rfl) ?_
  refine lv_bipush (v := 49) (pc := 325) hx hb dX12_init_325 (by decide) ?_
  refine r_newa (a0 := (49, .inl (fun _ => 0))) X hW .int rfl m_47 1 rfl (by intro C h; cases h) (fun _ => rfl) (by decide) (by decide) (Nat.le_of_ble_eq_true rfl) ⟨Nat.le_of_ble_eq_true rfl, Nat.le_of_ble_eq_true rfl⟩ dX12_init_327 (fun q38 H hW => ?_)
  have hW : WD g A s _ _ [(h0, .inr (12, [.int 0, .ref q1, .int 0, .int 0, .int 0, .int 0, .ref q2, .ref q3, .ref q4, .ref q5, .ref q6, .ref q7, .ref q8, .ref q9, .ref q10, .ref q11, .ref q12, .ref q13, .int 0, .int (-1), .int (-1), .ref q14, .ref q15, .ref q16, .ref q17, .ref q18, .ref q19, .int 0, .ref q20, .ref q21, .ref q22, .ref q23, .ref q24, .ref q25, .ref q26, .ref q27, .ref q28, .int 0, .int 0, .int 0, .int 0, .int 0, .int 0, .int 0, .int 0, .int 0, .ref q29, .ref q30, .ref q31, .ref q32, .ref q33, .ref q34, .ref q35, .ref q36, .ref q37, .null, .null, .null, .null, .null, .null, .null, .null, .null])), (q1, .inl (g.2.1 0, 400, .inl (fun _ => 0))), (q3, .inl (g.2.1 1, 11, .inl (fun _ => 0))), (q4, .inl (g.2.1 1, 11, .inl (fun _ => 0))), (q5, .inl (g.2.1 1, 44, .inl (fun _ => 0))), (q6, .inl (g.2.1 1, 44, .inl (fun _ => 0))), (q7, .inl (g.2.1 1, 44, .inl (fun _ => 0)))] := hW.pick [0, 1, 2, 3, 4, 5, 6] rfl rfl
  refine r_putF (ws' := [(h0, .inr (12, [.int 0, .ref q1, .int 0, .int 0, .int 0, .int 0, .ref q2, .ref q3, .ref q4, .ref q5, .ref q6, .ref q7, .ref q8, .ref q9, .ref q10, .ref q11, .ref q12, .ref q13, .int 0, .int (-1), .int (-1), .ref q14, .ref q15, .ref q16, .ref q17, .ref q18, .ref q19, .int 0, .ref q20, .ref q21, .ref q22, .ref q23, .ref q24, .ref q25, .ref q26, .ref q27, .ref q28, .int 0, .int 0, .int 0, .int 0, .int 0, .int 0, .int 0, .int 0, .int 0, .ref q29, .ref q30, .ref q31, .ref q32, .ref q33, .ref q34, .ref q35, .ref q36, .ref q37, .ref q38, .null, .null, .null, .null, .null, .null, .null, .null])), (q1, .inl (g.2.1 0, 400, .inl (fun _ => 0))), (q3, .inl (g.2.1 1, 11, .inl (fun _ => 0))), (q4, .inl (g.2.1 1, 11, .inl (fun _ => 0))), (q5, .inl (g.2.1 1, 44, .inl (fun _ => 0))), (q6, .inl (g.2.1 1, 44, .inl (fun _ => 0))), (q7, .inl (g.2.1 1, 44, .inl (fun _ => 0)))]) X hin hW 0 ciX12 55 rfl (by decide) m_1282 rfl rfl rfl rfl rfl (Nat.le_of_ble_eq_true rfl) rfl dX12_init_329 (fun H locs hW => ?_)
  refine lv_aload_n (pc := 332) hx hb dX12_init_332 rfl (lv_at hl 0 rfl) ?_
  refine lv_bipush (v := 7) (pc := 333) hx hb dX12_init_333 (by decide) ?_
  refine r_newa (a0 := (7, .inl (fun _ => 0))) X hW .int rfl m_47 1 rfl (by intro C h; cases h) (fun _ => rfl) (by decide) (by decide) (Nat.le_of_ble_eq_true rfl) ⟨Nat.le_of_ble_eq_true rfl, Nat.le_of_ble_eq_true rfl⟩ dX12_init_335 (fun q39 H hW => ?_)
  have hW : WD g A s _ _ [(h0, .inr (12, [.int 0, .ref q1, .int 0, .int 0, .int 0, .int 0, .ref q2, .ref q3, .ref q4, .ref q5, .ref q6, .ref q7, .ref q8, .ref q9, .ref q10, .ref q11, .ref q12, .ref q13, .int 0, .int (-1), .int (-1), .ref q14, .ref q15, .ref q16, .ref q17, .ref q18, .ref q19, .int 0, .ref q20, .ref q21, .ref q22, .ref q23, .ref q24, .ref q25, .ref q26, .ref q27, .ref q28, .int 0, .int 0, .int 0, .int 0, .int 0, .int 0, .int 0, .int 0, .int 0, .ref q29, .ref q30, .ref q31, .ref q32, .ref q33, .ref q34, .ref q35, .ref q36, .ref q37, .ref q38, .null, .null, .null, .null, .null, .null, .null, .null])), (q1, .inl (g.2.1 0, 400, .inl (fun _ => 0))), (q3, .inl (g.2.1 1, 11, .inl (fun _ => 0))), (q4, .inl (g.2.1 1, 11, .inl (fun _ => 0))), (q5, .inl (g.2.1 1, 44, .inl (fun _ => 0))), (q6, .inl (g.2.1 1, 44, .inl (fun _ => 0))), (q7, .inl (g.2.1 1, 44, .inl (fun _ => 0)))] := hW.pick [0, 1, 2, 3, 4, 5, 6] rfl rfl
  refine r_putF (ws' := [(h0, .inr (12, [.int 0, .ref q1, .int 0, .int 0, .int 0, .int 0, .ref q2, .ref q3, .ref q4, .ref q5, .ref q6, .ref q7, .ref q8, .ref q9, .ref q10, .ref q11, .ref q12, .ref q13, .int 0, .int (-1), .int (-1), .ref q14, .ref q15, .ref q16, .ref q17, .ref q18, .ref q19, .int 0, .ref q20, .ref q21, .ref q22, .ref q23, .ref q24, .ref q25, .ref q26, .ref q27, .ref q28, .int 0, .int 0, .int 0, .int 0, .int 0, .int 0, .int 0, .int 0, .int 0, .ref q29, .ref q30, .ref q31, .ref q32, .ref q33, .ref q34, .ref q35, .ref q36, .ref q37, .ref q38, .ref q39, .null, .null, .null, .null, .null, .null, .null])), (q1, .inl (g.2.1 0, 400, .inl (fun _ => 0))), (q3, .inl (g.2.1 1, 11, .inl (fun _ => 0))), (q4, .inl (g.2.1 1, 11, .inl (fun _ => 0))), (q5, .inl (g.2.1 1, 44, .inl (fun _ => 0))), (q6, .inl (g.2.1 1, 44, .inl (fun _ => 0))), (q7, .inl (g.2.1 1, 44, .inl (fun _ => 0)))]) X hin hW 0 ciX12 56 rfl (by decide) m_1283 rfl rfl rfl rfl rfl (Nat.le_of_ble_eq_true rfl) rfl dX12_init_337 (fun H locs hW => ?_)
  refine lv_aload_n (pc := 340) hx hb dX12_init_340 rfl (lv_at hl 0 rfl) ?_
  refine lv_bipush (v := 7) (pc := 341) hx hb dX12_init_341 (by decide) ?_
  refine r_newa (a0 := (7, .inl (fun _ => 0))) X hW .int rfl m_47 1 rfl (by intro C h; cases h) (fun _ => rfl) (by decide) (by decide) (Nat.le_of_ble_eq_true rfl) ⟨Nat.le_of_ble_eq_true rfl, Nat.le_of_ble_eq_true rfl⟩ dX12_init_343 (fun q40 H hW => ?_)
  have hW : WD g A s _ _ [(h0, .inr (12, [.int 0, .ref q1, .int 0, .int 0, .int 0, .int 0, .ref q2, .ref q3, .ref q4, .ref q5, .ref q6, .ref q7, .ref q8, .ref q9, .ref q10, .ref q11, .ref q12, .ref q13, .int 0, .int (-1), .int (-1), .ref q14, .ref q15, .ref q16, .ref q17, .ref q18, .ref q19, .int 0, .ref q20, .ref q21, .ref q22, .ref q23, .ref q24, .ref q25, .ref q26, .ref q27, .ref q28, .int 0, .int 0, .int 0, .int 0, .int 0, .int 0, .int 0, .int 0, .int 0, .ref q29, .ref q30, .ref q31, .ref q32, .ref q33, .ref q34, .ref q35, .ref q36, .ref q37, .ref q38, .ref q39, .null, .null, .null, .null, .null, .null, .null])), (q1, .inl (g.2.1 0, 400, .inl (fun _ => 0))), (q3, .inl (g.2.1 1, 11, .inl (fun _ => 0))), (q4, .inl (g.2.1 1, 11, .inl (fun _ => 0))), (q5, .inl (g.2.1 1, 44, .inl (fun _ => 0))), (q6, .inl (g.2.1 1, 44, .inl (fun _ => 0))), (q7, .inl (g.2.1 1, 44, .inl (fun _ => 0)))] := hW.pick [0, 1, 2, 3, 4, 5, 6] rfl rfl
  refine r_putF (ws' := [(h0, .inr (12, [.int 0, .ref q1, .int 0, .int 0, .int 0, .int 0, .ref q2, .ref q3, .ref q4, .ref q5, .ref q6, .ref q7, .ref q8, .ref q9, .ref q10, .ref q11, .ref q12, .ref q13, .int 0, .int (-1), .int (-1), .ref q14, .ref q15, .ref q16, .ref q17, .ref q18, .ref q19, .int 0, .ref q20, .ref q21, .ref q22, .ref q23, .ref q24, .ref q25, .ref q26, .ref q27, .ref q28, .int 0, .int 0, .int 0, .int 0, .int 0, .int 0, .int 0, .int 0, .int 0, .ref q29, .ref q30, .ref q31, .ref q32, .ref q33, .ref q34, .ref q35, .ref q36, .ref q37, .ref q38, .ref q39, .ref q40, .null, .null, .null, .null, .null, .null])), (q1, .inl (g.2.1 0, 400, .inl (fun _ => 0))), (q3, .inl (g.2.1 1, 11, .inl (fun _ => 0))), (q4, .inl (g.2.1 1, 11, .inl (fun _ => 0))), (q5, .inl (g.2.1 1, 44, .inl (fun _ => 0))), (q6, .inl (g.2.1 1, 44, .inl (fun _ => 0))), (q7, .inl (g.2.1 1, 44, .inl (fun _ => 0)))]) X hin hW 0 ciX12 57 rfl (by decide) m_1284 rfl rfl rfl rfl rfl (Nat.le_of_ble_eq_true rfl) rfl dX12_init_345 (fun H locs hW => ?_)
  refine lv_aload_n (pc := 348) hx hb dX12_init_348 rfl (lv_at hl 0 rfl) ?_
  refine lv_iconst (v := 3) (pc := 349) hx hb dX12_init_349 (by decide) ?_
  refine r_newa (a0 := (3, .inl (fun _ => 0))) X hW .int rfl m_47 1 rfl (by intro C h; cases h) (fun _ => rfl) (by decide) (by decide) (Nat.le_of_ble_eq_true rfl) ⟨Nat.le_of_ble_eq_true rfl, Nat.le_of_ble_eq_true rfl⟩ dX12_init_350 (fun q41 H hW => ?_)
  have hW : WD g A s _ _ [(h0, .inr (12, [.int 0, .ref q1, .int 0, .int 0, .int 0, .int 0, .ref q2, .ref q3, .ref q4, .ref q5, .ref q6, .ref q7, .ref q8, .ref q9, .ref q10, .ref q11, .ref q12, .ref q13, .int 0, .int (-1), .int (-1), .ref q14, .ref q15, .ref q16, .ref q17, .ref q18, .ref q19, .int 0, .ref q20, .ref q21, .ref q22, .ref q23, .ref q24, .ref q25, .ref q26, .ref q27, .ref q28, .int 0, .int 0, .int 0, .int 0, .int 0, .int 0, .int 0, .int 0, .int 0, .ref q29, .ref q30, .ref q31, .ref q32, .ref q33, .ref q34, .ref q35, .ref q36, .ref q37, .ref q38, .ref q39, .ref q40, .null, .null, .null, .null, .null, .null])), (q1, .inl (g.2.1 0, 400, .inl (fun _ => 0))), (q3, .inl (g.2.1 1, 11, .inl (fun _ => 0))), (q4, .inl (g.2.1 1, 11, .inl (fun _ => 0))), (q5, .inl (g.2.1 1, 44, .inl (fun _ => 0))), (q6, .inl (g.2.1 1, 44, .inl (fun _ => 0))), (q7, .inl (g.2.1 1, 44, .inl (fun _ => 0)))] := hW.pick [0, 1, 2, 3, 4, 5, 6] rfl rfl
  refine r_putF (ws' := [(h0, .inr (12, [.int 0, .ref q1, .int 0, .int 0, .int 0, .int 0, .ref q2, .ref q3, .ref q4, .ref q5, .ref q6, .ref q7, .ref q8, .ref q9, .ref q10, .ref q11, .ref q12, .ref q13, .int 0, .int (-1), .int (-1), .ref q14, .ref q15, .ref q16, .ref q17, .ref q18, .ref q19, .int 0, .ref q20, .ref q21, .ref q22, .ref q23, .ref q24, .ref q25, .ref q26, .ref q27, .ref q28, .int 0, .int 0, .int 0, .int 0, .int 0, .int 0, .int 0, .int 0, .int 0, .ref q29, .ref q30, .ref q31, .ref q32, .ref q33, .ref q34, .ref q35, .ref q36, .ref q37, .ref q38, .ref q39, .ref q40, .ref q41, .null, .null, .null, .null, .null])), (q1, .inl (g.2.1 0, 400, .inl (fun _ => 0))), (q3, .inl (g.2.1 1, 11, .inl (fun _ => 0))), (q4, .inl (g.2.1 1, 11, .inl (fun _ => 0))), (q5, .inl (g.2.1 1, 44, .inl (fun _ => 0))), (q6, .inl (g.2.1 1, 44, .inl (fun _ => 0))), (q7, .inl (g.2.1 1, 44, .inl (fun _ => 0)))]) X hin hW 0 ciX12 58 rfl (by decide) m_1285 rfl rfl rfl rfl rfl (Nat.le_of_ble_eq_true rfl) rfl dX12_init_352 (fun H locs hW => ?_)
  refine lv_aload_n (pc := 355) hx hb dX12_init_355 rfl (lv_at hl 0 rfl) ?_
  refine lv_bipush (v := 16) (pc := 356) hx hb dX12_init_356 (by decide) ?_
  refine r_newa (a0 := (16, .inr (.inl (fun _ => 0)))) X hW .long rfl m_266 2 rfl (by intro C h; cases h) (fun _ => rfl) (by decide) (by decide) (Nat.le_of_ble_eq_true rfl) ⟨Nat.le_of_ble_eq_true rfl, Nat.le_of_ble_eq_true rfl⟩ dX12_init_358 (fun q42 H hW => ?_)
  have hW : WD g A s _ _ [(h0, .inr (12, [.int 0, .ref q1, .int 0, .int 0, .int 0, .int 0, .ref q2, .ref q3, .ref q4, .ref q5, .ref q6, .ref q7, .ref q8, .ref q9, .ref q10, .ref q11, .ref q12, .ref q13, .int 0, .int (-1), .int (-1), .ref q14, .ref q15, .ref q16, .ref q17, .ref q18, .ref q19, .int 0, .ref q20, .ref q21, .ref q22, .ref q23, .ref q24, .ref q25, .ref q26, .ref q27, .ref q28, .int 0, .int 0, .int 0, .int 0, .int 0, .int 0, .int 0, .int 0, .int 0, .ref q29, .ref q30, .ref q31, .ref q32, .ref q33, .ref q34, .ref q35, .ref q36, .ref q37, .ref q38, .ref q39, .ref q40, .ref q41, .null, .null, .null, .null, .null])), (q1, .inl (g.2.1 0, 400, .inl (fun _ => 0))), (q3, .inl (g.2.1 1, 11, .inl (fun _ => 0))), (q4, .inl (g.2.1 1, 11, .inl (fun _ => 0))), (q5, .inl (g.2.1 1, 44, .inl (fun _ => 0))), (q6, .inl (g.2.1 1, 44, .inl (fun _ => 0))), (q7, .inl (g.2.1 1, 44, .inl (fun _ => 0))), (q42, .inl (g.2.1 2, 16, .inr (.inl (fun _ => 0))))] := hW
  refine r_putF (ws' := [(h0, .inr (12, [.int 0, .ref q1, .int 0, .int 0, .int 0, .int 0, .ref q2, .ref q3, .ref q4, .ref q5, .ref q6, .ref q7, .ref q8, .ref q9, .ref q10, .ref q11, .ref q12, .ref q13, .int 0, .int (-1), .int (-1), .ref q14, .ref q15, .ref q16, .ref q17, .ref q18, .ref q19, .int 0, .ref q20, .ref q21, .ref q22, .ref q23, .ref q24, .ref q25, .ref q26, .ref q27, .ref q28, .int 0, .int 0, .int 0, .int 0, .int 0, .int 0, .int 0, .int 0, .int 0, .ref q29, .ref q30, .ref q31, .ref q32, .ref q33, .ref q34, .ref q35, .ref q36, .ref q37, .ref q38, .ref q39, .ref q40, .ref q41, .ref q42, .null, .null, .null, .null])), (q1, .inl (g.2.1 0, 400, .inl (fun _ => 0))), (q3, .inl (g.2.1 1, 11, .inl (fun _ => 0))), (q4, .inl (g.2.1 1, 11, .inl (fun _ => 0))), (q5, .inl (g.2.1 1, 44, .inl (fun _ => 0))), (q6, .inl (g.2.1 1, 44, .inl (fun _ => 0))), (q7, .inl (g.2.1 1, 44, .inl (fun _ => 0))), (q42, .inl (g.2.1 2, 16, .inr (.inl (fun _ => 0))))]) X hin hW 0 ciX12 59 rfl (by decide) m_1286 rfl rfl rfl rfl rfl (Nat.le_of_ble_eq_true rfl) rfl dX12_init_360 (fun H locs hW => ?_)
  refine lv_aload_n (pc := 363) hx hb dX12_init_363 rfl (lv_at hl 0 rfl) ?_
  refine lv_bipush (v := 16) (pc := 364) hx hb dX12_init_364 (by decide) ?_
  refine r_newa (a0 := (16, .inr (.inl (fun _ => 0)))) X hW .long rfl m_266 2 rfl (by intro C h; cases h) (fun _ => rfl) (by decide) (by decide) (Nat.le_of_ble_eq_true rfl) ⟨Nat.le_of_ble_eq_true rfl, Nat.le_of_ble_eq_true rfl⟩ dX12_init_366 (fun q43 H hW => ?_)
  have hW : WD g A s _ _ [(h0, .inr (12, [.int 0, .ref q1, .int 0, .int 0, .int 0, .int 0, .ref q2, .ref q3, .ref q4, .ref q5, .ref q6, .ref q7, .ref q8, .ref q9, .ref q10, .ref q11, .ref q12, .ref q13, .int 0, .int (-1), .int (-1), .ref q14, .ref q15, .ref q16, .ref q17, .ref q18, .ref q19, .int 0, .ref q20, .ref q21, .ref q22, .ref q23, .ref q24, .ref q25, .ref q26, .ref q27, .ref q28, .int 0, .int 0, .int 0, .int 0, .int 0, .int 0, .int 0, .int 0, .int 0, .ref q29, .ref q30, .ref q31, .ref q32, .ref q33, .ref q34, .ref q35, .ref q36, .ref q37, .ref q38, .ref q39, .ref q40, .ref q41, .ref q42, .null, .null, .null, .null])), (q1, .inl (g.2.1 0, 400, .inl (fun _ => 0))), (q3, .inl (g.2.1 1, 11, .inl (fun _ => 0))), (q4, .inl (g.2.1 1, 11, .inl (fun _ => 0))), (q5, .inl (g.2.1 1, 44, .inl (fun _ => 0))), (q6, .inl (g.2.1 1, 44, .inl (fun _ => 0))), (q7, .inl (g.2.1 1, 44, .inl (fun _ => 0))), (q42, .inl (g.2.1 2, 16, .inr (.inl (fun _ => 0)))), (q43, .inl (g.2.1 2, 16, .inr (.inl (fun _ => 0))))] := hW
  refine r_putF (ws' := [(h0, .inr (12, [.int 0, .ref q1, .int 0, .int 0, .int 0, .int 0, .ref q2, .ref q3, .ref q4, .ref q5, .ref q6, .ref q7, .ref q8, .ref q9, .ref q10, .ref q11, .ref q12, .ref q13, .int 0, .int (-1), .int (-1), .ref q14, .ref q15, .ref q16, .ref q17, .ref q18, .ref q19, .int 0, .ref q20, .ref q21, .ref q22, .ref q23, .ref q24, .ref q25, .ref q26, .ref q27, .ref q28, .int 0, .int 0, .int 0, .int 0, .int 0, .int 0, .int 0, .int 0, .int 0, .ref q29, .ref q30, .ref q31, .ref q32, .ref q33, .ref q34, .ref q35, .ref q36, .ref q37, .ref q38, .ref q39, .ref q40, .ref q41, .ref q42, .ref q43, .null, .null, .null])), (q1, .inl (g.2.1 0, 400, .inl (fun _ => 0))), (q3, .inl (g.2.1 1, 11, .inl (fun _ => 0))), (q4, .inl (g.2.1 1, 11, .inl (fun _ => 0))), (q5, .inl (g.2.1 1, 44, .inl (fun _ => 0))), (q6, .inl (g.2.1 1, 44, .inl (fun _ => 0))), (q7, .inl (g.2.1 1, 44, .inl (fun _ => 0))), (q42, .inl (g.2.1 2, 16, .inr (.inl (fun _ => 0)))), (q43, .inl (g.2.1 2, 16, .inr (.inl (fun _ => 0))))]) X hin hW 0 ciX12 60 rfl (by decide) m_1287 rfl rfl rfl rfl rfl (Nat.le_of_ble_eq_true rfl) rfl dX12_init_368 (fun H locs hW => ?_)
  refine lv_aload_n (pc := 371) hx hb dX12_init_371 rfl (lv_at hl 0 rfl) ?_
  refine lv_sipush (v := 308) (pc := 372) hx hb dX12_init_372 (by decide) ?_
  refine r_newa (a0 := (308, .inl (fun _ => 0))) X hW .int rfl m_47 1 rfl (by intro C h; cases h) (fun _ => rfl) (by decide) (by decide) (Nat.le_of_ble_eq_true rfl) ⟨Nat.le_of_ble_eq_true rfl, Nat.le_of_ble_eq_true rfl⟩ dX12_init_375 (fun q44 H hW => ?_)
  have hW : WD g A s _ _ [(h0, .inr (12, [.int 0, .ref q1, .int 0, .int 0, .int 0, .int 0, .ref q2, .ref q3, .ref q4, .ref q5, .ref q6, .ref q7, .ref q8, .ref q9, .ref q10, .ref q11, .ref q12, .ref q13, .int 0, .int (-1), .int (-1), .ref q14, .ref q15, .ref q16, .ref q17, .ref q18, .ref q19, .int 0, .ref q20, .ref q21, .ref q22, .ref q23, .ref q24, .ref q25, .ref q26, .ref q27, .ref q28, .int 0, .int 0, .int 0, .int 0, .int 0, .int 0, .int 0, .int 0, .int 0, .ref q29, .ref q30, .ref q31, .ref q32, .ref q33, .ref q34, .ref q35, .ref q36, .ref q37, .ref q38, .ref q39, .ref q40, .ref q41, .ref q42, .ref q43, .null, .null, .null])), (q1, .inl (g.2.1 0, 400, .inl (fun _ => 0))), (q3, .inl (g.2.1 1, 11, .inl (fun _ => 0))), (q4, .inl (g.2.1 1, 11, .inl (fun _ => 0))), (q5, .inl (g.2.1 1, 44, .inl (fun _ => 0))), (q6, .inl (g.2.1 1, 44, .inl (fun _ => 0))), (q7, .inl (g.2.1 1, 44, .inl (fun _ => 0))), (q42, .inl (g.2.1 2, 16, .inr (.inl (fun _ => 0)))), (q43, .inl (g.2.1 2, 16, .inr (.inl (fun _ => 0))))] := hW.pick [0, 1, 2, 3, 4, 5, 6, 7, 8] rfl rfl
  refine r_putF (ws' := [(h0, .inr (12, [.int 0, .ref q1, .int 0, .int 0, .int 0, .int 0, .ref q2, .ref q3, .ref q4, .ref q5, .ref q6, .ref q7, .ref q8, .ref q9, .ref q10, .ref q11, .ref q12, .ref q13, .int 0, .int (-1), .int (-1), .ref q14, .ref q15, .ref q16, .ref q17, .ref q18, .ref q19, .int 0, .ref q20, .ref q21, .ref q22, .ref q23, .ref q24, .ref q25, .ref q26, .ref q27, .ref q28, .int 0, .int 0, .int 0, .int 0, .int 0, .int 0, .int 0, .int 0, .int 0, .ref q29, .ref q30, .ref q31, .ref q32, .ref q33, .ref q34, .ref q35, .ref q36, .ref q37, .ref q38, .ref q39, .ref q40, .ref q41, .ref q42, .ref q43, .ref q44, .null, .null])), (q1, .inl (g.2.1 0, 400, .inl (fun _ => 0))), (q3, .inl (g.2.1 1, 11, .inl (fun _ => 0))), (q4, .inl (g.2.1 1, 11, .inl (fun _ => 0))), (q5, .inl (g.2.1 1, 44, .inl (fun _ => 0))), (q6, .inl (g.2.1 1, 44, .inl (fun _ => 0))), (q7, .inl (g.2.1 1, 44, .inl (fun _ => 0))), (q42, .inl (g.2.1 2, 16, .inr (.inl (fun _ => 0)))), (q43, .inl (g.2.1 2, 16, .inr (.inl (fun _ => 0))))]) X hin hW 0 ciX12 61 rfl (by decide) m_1288 rfl rfl rfl rfl rfl (Nat.le_of_ble_eq_true rfl) rfl dX12_init_377 (fun H locs hW => ?_)
  refine lv_aload_n (pc := 380) hx hb dX12_init_380 rfl (lv_at hl 0 rfl) ?_
  refine lv_sipush (v := 16384) (pc := 381) hx hb dX12_init_381 (by decide) ?_
  refine r_newa (a0 := (16384, .inl (fun _ => 0))) X hW .boolean rfl m_109 3 rfl (by intro C h; cases h) (fun _ => rfl) (by decide) (by decide) (Nat.le_of_ble_eq_true rfl) ⟨Nat.le_of_ble_eq_true rfl, Nat.le_of_ble_eq_true rfl⟩ dX12_init_384 (fun q45 H hW => ?_)
  have hW : WD g A s _ _ [(h0, .inr (12, [.int 0, .ref q1, .int 0, .int 0, .int 0, .int 0, .ref q2, .ref q3, .ref q4, .ref q5, .ref q6, .ref q7, .ref q8, .ref q9, .ref q10, .ref q11, .ref q12, .ref q13, .int 0, .int (-1), .int (-1), .ref q14, .ref q15, .ref q16, .ref q17, .ref q18, .ref q19, .int 0, .ref q20, .ref q21, .ref q22, .ref q23, .ref q24, .ref q25, .ref q26, .ref q27, .ref q28, .int 0, .int 0, .int 0, .int 0, .int 0, .int 0, .int 0, .int 0, .int 0, .ref q29, .ref q30, .ref q31, .ref q32, .ref q33, .ref q34, .ref q35, .ref q36, .ref q37, .ref q38, .ref q39, .ref q40, .ref q41, .ref q42, .ref q43, .ref q44, .null, .null])), (q1, .inl (g.2.1 0, 400, .inl (fun _ => 0))), (q3, .inl (g.2.1 1, 11, .inl (fun _ => 0))), (q4, .inl (g.2.1 1, 11, .inl (fun _ => 0))), (q5, .inl (g.2.1 1, 44, .inl (fun _ => 0))), (q6, .inl (g.2.1 1, 44, .inl (fun _ => 0))), (q7, .inl (g.2.1 1, 44, .inl (fun _ => 0))), (q42, .inl (g.2.1 2, 16, .inr (.inl (fun _ => 0)))), (q43, .inl (g.2.1 2, 16, .inr (.inl (fun _ => 0))))] := hW.pick [0, 1, 2, 3, 4, 5, 6, 7, 8] rfl rfl
  refine r_putF (ws' := [(h0, .inr (12, [.int 0, .ref q1, .int 0, .int 0, .int 0, .int 0, .ref q2, .ref q3, .ref q4, .ref q5, .ref q6, .ref q7, .ref q8, .ref q9, .ref q10, .ref q11, .ref q12, .ref q13, .int 0, .int (-1), .int (-1), .ref q14, .ref q15, .ref q16, .ref q17, .ref q18, .ref q19, .int 0, .ref q20, .ref q21, .ref q22, .ref q23, .ref q24, .ref q25, .ref q26, .ref q27, .ref q28, .int 0, .int 0, .int 0, .int 0, .int 0, .int 0, .int 0, .int 0, .int 0, .ref q29, .ref q30, .ref q31, .ref q32, .ref q33, .ref q34, .ref q35, .ref q36, .ref q37, .ref q38, .ref q39, .ref q40, .ref q41, .ref q42, .ref q43, .ref q44, .ref q45, .null])), (q1, .inl (g.2.1 0, 400, .inl (fun _ => 0))), (q3, .inl (g.2.1 1, 11, .inl (fun _ => 0))), (q4, .inl (g.2.1 1, 11, .inl (fun _ => 0))), (q5, .inl (g.2.1 1, 44, .inl (fun _ => 0))), (q6, .inl (g.2.1 1, 44, .inl (fun _ => 0))), (q7, .inl (g.2.1 1, 44, .inl (fun _ => 0))), (q42, .inl (g.2.1 2, 16, .inr (.inl (fun _ => 0)))), (q43, .inl (g.2.1 2, 16, .inr (.inl (fun _ => 0))))]) X hin hW 0 ciX12 62 rfl (by decide) m_1289 rfl rfl rfl rfl rfl (Nat.le_of_ble_eq_true rfl) rfl dX12_init_386 (fun H locs hW => ?_)
  refine lv_aload_n (pc := 389) hx hb dX12_init_389 rfl (lv_at hl 0 rfl) ?_
  refine lv_sipush (v := 16384) (pc := 390) hx hb dX12_init_390 (by decide) ?_
  refine r_newa (a0 := (16384, .inl (fun _ => 0))) X hW .boolean rfl m_109 3 rfl (by intro C h; cases h) (fun _ => rfl) (by decide) (by decide) (Nat.le_of_ble_eq_true rfl) ⟨Nat.le_of_ble_eq_true rfl, Nat.le_of_ble_eq_true rfl⟩ dX12_init_393 (fun q46 H hW => ?_)
  have hW : WD g A s _ _ [(h0, .inr (12, [.int 0, .ref q1, .int 0, .int 0, .int 0, .int 0, .ref q2, .ref q3, .ref q4, .ref q5, .ref q6, .ref q7, .ref q8, .ref q9, .ref q10, .ref q11, .ref q12, .ref q13, .int 0, .int (-1), .int (-1), .ref q14, .ref q15, .ref q16, .ref q17, .ref q18, .ref q19, .int 0, .ref q20, .ref q21, .ref q22, .ref q23, .ref q24, .ref q25, .ref q26, .ref q27, .ref q28, .int 0, .int 0, .int 0, .int 0, .int 0, .int 0, .int 0, .int 0, .int 0, .ref q29, .ref q30, .ref q31, .ref q32, .ref q33, .ref q34, .ref q35, .ref q36, .ref q37, .ref q38, .ref q39, .ref q40, .ref q41, .ref q42, .ref q43, .ref q44, .ref q45, .null])), (q1, .inl (g.2.1 0, 400, .inl (fun _ => 0))), (q3, .inl (g.2.1 1, 11, .inl (fun _ => 0))), (q4, .inl (g.2.1 1, 11, .inl (fun _ => 0))), (q5, .inl (g.2.1 1, 44, .inl (fun _ => 0))), (q6, .inl (g.2.1 1, 44, .inl (fun _ => 0))), (q7, .inl (g.2.1 1, 44, .inl (fun _ => 0))), (q42, .inl (g.2.1 2, 16, .inr (.inl (fun _ => 0)))), (q43, .inl (g.2.1 2, 16, .inr (.inl (fun _ => 0))))] := hW.pick [0, 1, 2, 3, 4, 5, 6, 7, 8] rfl rfl
  refine r_putF (ws' := [(h0, .inr (12, [.int 0, .ref q1, .int 0, .int 0, .int 0, .int 0, .ref q2, .ref q3, .ref q4, .ref q5, .ref q6, .ref q7, .ref q8, .ref q9, .ref q10, .ref q11, .ref q12, .ref q13, .int 0, .int (-1), .int (-1), .ref q14, .ref q15, .ref q16, .ref q17, .ref q18, .ref q19, .int 0, .ref q20, .ref q21, .ref q22, .ref q23, .ref q24, .ref q25, .ref q26, .ref q27, .ref q28, .int 0, .int 0, .int 0, .int 0, .int 0, .int 0, .int 0, .int 0, .int 0, .ref q29, .ref q30, .ref q31, .ref q32, .ref q33, .ref q34, .ref q35, .ref q36, .ref q37, .ref q38, .ref q39, .ref q40, .ref q41, .ref q42, .ref q43, .ref q44, .ref q45, .ref q46])), (q1, .inl (g.2.1 0, 400, .inl (fun _ => 0))), (q3, .inl (g.2.1 1, 11, .inl (fun _ => 0))), (q4, .inl (g.2.1 1, 11, .inl (fun _ => 0))), (q5, .inl (g.2.1 1, 44, .inl (fun _ => 0))), (q6, .inl (g.2.1 1, 44, .inl (fun _ => 0))), (q7, .inl (g.2.1 1, 44, .inl (fun _ => 0))), (q42, .inl (g.2.1 2, 16, .inr (.inl (fun _ => 0)))), (q43, .inl (g.2.1 2, 16, .inr (.inl (fun _ => 0))))]) X hin hW 0 ciX12 63 rfl (by decide) m_1290 rfl rfl rfl rfl rfl (Nat.le_of_ble_eq_true rfl) rfl dX12_init_395 (fun H locs hW => ?_)
  exact e_v X hQ hr hW (u := [(h0, .inr (12, [.int 0, .ref q1, .int 0, .int 0, .int 0, .int 0, .ref q2, .ref q3, .ref q4, .ref q5, .ref q6, .ref q7, .ref q8, .ref q9, .ref q10, .ref q11, .ref q12, .ref q13, .int 0, .int (-1), .int (-1), .ref q14, .ref q15, .ref q16, .ref q17, .ref q18, .ref q19, .int 0, .ref q20, .ref q21, .ref q22, .ref q23, .ref q24, .ref q25, .ref q26, .ref q27, .ref q28, .int 0, .int 0, .int 0, .int 0, .int 0, .int 0, .int 0, .int 0, .int 0, .ref q29, .ref q30, .ref q31, .ref q32, .ref q33, .ref q34, .ref q35, .ref q36, .ref q37, .ref q38, .ref q39, .ref q40, .ref q41, .ref q42, .ref q43, .ref q44, .ref q45, .ref q46])), (q1, .inl (g.2.1 0, 400, .inl (fun _ => 0))), (q3, .inl (g.2.1 1, 11, .inl (fun _ => 0))), (q4, .inl (g.2.1 1, 11, .inl (fun _ => 0))), (q5, .inl (g.2.1 1, 44, .inl (fun _ => 0))), (q6, .inl (g.2.1 1, 44, .inl (fun _ => 0))), (q7, .inl (g.2.1 1, 44, .inl (fun _ => 0))), (q42, .inl (g.2.1 2, 16, .inr (.inl (fun _ => 0)))), (q43, .inl (g.2.1 2, 16, .inr (.inl (fun _ => 0))))]) [0, 1, 2, 3, 4, 5, 6, 7, 8] rfl rfl (⟨q1, q2, q3, q4, q5, q6, q7, q8, q9, q10, q11, q12, q13, q14, q15, q16, q17, q18, q19, q20, q21, q22, q23, q24, q25, q26, q27, q28, q29, q30, q31, q32, q33, q34, q35, q36, q37, q38, q39, q40, q41, q42, q43, q44, q45, q46, rfl⟩) ⟨Nat.le_of_ble_eq_true rfl, Nat.le_of_ble_eq_true rfl⟩ dX12_init_398
end
section
theorem m_524 : (Cond.code yX11_valleyAt prog_1_method_39_code 2 (Option.some (FieldType.object "NoonValley$Valley"))) ∈ BW := bw (tb3 44 (by decide +kernel)) (by decide +kernel)
theorem dX11_valleyAt_0 : decode cX11_valleyAt 0 = .ok (.iload_n 1, 1) := by decide +kernel
theorem dX11_valleyAt_1 : decode cX11_valleyAt 1 = .ok (.ifCond .lt 11, 3) := by decide +kernel
theorem dX11_valleyAt_12 : decode cX11_valleyAt 12 = .ok (.aconst_null, 1) := by decide +kernel
theorem dX11_valleyAt_13 : decode cX11_valleyAt 13 = .ok (.goto 9, 3) := by decide +kernel
theorem dX11_valleyAt_22 : decode cX11_valleyAt 22 = .ok (.areturn, 1) := by decide +kernel
theorem dX11_valleyAt_4 : decode cX11_valleyAt 4 = .ok (.iload_n 1, 1) := by decide +kernel
theorem dX11_valleyAt_5 : decode cX11_valleyAt 5 = .ok (.aload_n 0, 1) := by decide +kernel
theorem m_364 : (Cond.fieldLink "NoonValley" 94 "NoonValley" "valleyCount" "I") ∈ BW := bw (tb2 124 (by decide +kernel)) (by decide +kernel)
theorem dX11_valleyAt_6 : decode cX11_valleyAt 6 = .ok (.getfield 94, 3) := by decide +kernel
theorem dX11_valleyAt_9 : decode cX11_valleyAt 9 = .ok (.if_icmp .lt 7, 3) := by decide +kernel
theorem m_613 : (Cond.code yX11_planAt prog_1_method_40_code 2 (Option.some (FieldType.object "NoonValley$Plan"))) ∈ BW := bw (tb3 133 (by decide +kernel)) (by decide +kernel)
theorem dX11_planAt_0 : decode cX11_planAt 0 = .ok (.iload_n 1, 1) := by decide +kernel
theorem dX11_planAt_1 : decode cX11_planAt 1 = .ok (.ifCond .lt 11, 3) := by decide +kernel
theorem dX11_planAt_12 : decode cX11_planAt 12 = .ok (.aconst_null, 1) := by decide +kernel
theorem dX11_planAt_13 : decode cX11_planAt 13 = .ok (.goto 9, 3) := by decide +kernel
theorem dX11_planAt_22 : decode cX11_planAt 22 = .ok (.areturn, 1) := by decide +kernel
theorem dX11_planAt_4 : decode cX11_planAt 4 = .ok (.iload_n 1, 1) := by decide +kernel
theorem dX11_planAt_5 : decode cX11_planAt 5 = .ok (.aload_n 0, 1) := by decide +kernel
theorem m_365 : (Cond.fieldLink "NoonValley" 151 "NoonValley" "planCount" "I") ∈ BW := bw (tb2 125 (by decide +kernel)) (by decide +kernel)
theorem dX11_planAt_6 : decode cX11_planAt 6 = .ok (.getfield 151, 3) := by decide +kernel
theorem dX11_planAt_9 : decode cX11_planAt 9 = .ok (.if_icmp .lt 7, 3) := by decide +kernel
theorem m_520 : (Cond.code yX11_told prog_1_method_6_code 5 (Option.some FieldType.int)) ∈ BW := bw (tb3 40 (by decide +kernel)) (by decide +kernel)
theorem dX11_told_0 : decode cX11_told 0 = .ok (.aload_n 0, 1) := by decide +kernel
theorem dX11_told_1 : decode cX11_told 1 = .ok (.iload_n 1, 1) := by decide +kernel
theorem m_521 : (Cond.methodLink "NoonValley" 101 yX11_valleyAt) ∈ BW := bw (tb3 41 (by decide +kernel)) (by decide +kernel)
theorem m_1 : (Cond.initialized "NoonValley") ∈ BW := bw (tb1 1 (by decide +kernel)) (by decide +kernel)
theorem m_523 : (Cond.instanceMethod yX11_valleyAt) ∈ BW := bw (tb3 43 (by decide +kernel)) (by decide +kernel)
theorem s_1_10 : (Cond.selects RX11 yX11_valleyAt yX11_valleyAt) ∈ BW := bw (sl1 (y := yX11_valleyAt) (n := 14) 10 (by decide +kernel)) (by decide +kernel)
theorem vX11_101 : LV RX11 101 RX11 yX11_valleyAt cX11_valleyAt 2 (some (.object "NoonValley$Valley")) 1 := ⟨m_521, m_523, s_1_10, m_1, m_524, rfl, by decide, by decide, by decide +kernel⟩
theorem dX11_told_2 : decode cX11_told 2 = .ok (.invokevirtual 101, 3) := by decide +kernel
theorem dX11_told_5 : decode cX11_told 5 = .ok (.astore_n 3, 1) := by decide +kernel
theorem dX11_told_6 : decode cX11_told 6 = .ok (.aload_n 3, 1) := by decide +kernel
theorem dX11_told_7 : decode cX11_told 7 = .ok (.ifnull 7, 3) := by decide +kernel
theorem dX11_told_14 : decode cX11_told 14 = .ok (.iconst (-1), 1) := by decide +kernel
theorem dX11_told_15 : decode cX11_told 15 = .ok (.ireturn, 1) := by decide +kernel
theorem m_528 : (Cond.code yX11_down prog_1_method_8_code 5 (Option.some FieldType.boolean)) ∈ BW := bw (tb3 48 (by decide +kernel)) (by decide +kernel)
theorem dX11_down_0 : decode cX11_down 0 = .ok (.aload_n 0, 1) := by decide +kernel
theorem dX11_down_1 : decode cX11_down 1 = .ok (.iload_n 1, 1) := by decide +kernel
theorem dX11_down_2 : decode cX11_down 2 = .ok (.invokevirtual 101, 3) := by decide +kernel
theorem dX11_down_5 : decode cX11_down 5 = .ok (.astore 4, 2) := by decide +kernel
theorem dX11_down_7 : decode cX11_down 7 = .ok (.aload 4, 2) := by decide +kernel
theorem dX11_down_9 : decode cX11_down 9 = .ok (.ifnull 24, 3) := by decide +kernel
theorem dX11_down_33 : decode cX11_down 33 = .ok (.iconst 0, 1) := by decide +kernel
theorem dX11_down_34 : decode cX11_down 34 = .ok (.ireturn, 1) := by decide +kernel
theorem m_543 : (Cond.code yX11_may prog_1_method_9_code 6 (Option.some FieldType.int)) ∈ BW := bw (tb3 63 (by decide +kernel)) (by decide +kernel)
theorem dX11_may_0 : decode cX11_may 0 = .ok (.aload_n 0, 1) := by decide +kernel
theorem dX11_may_1 : decode cX11_may 1 = .ok (.iload_n 1, 1) := by decide +kernel
theorem dX11_may_2 : decode cX11_may 2 = .ok (.invokevirtual 101, 3) := by decide +kernel
theorem dX11_may_5 : decode cX11_may 5 = .ok (.astore 5, 2) := by decide +kernel
theorem dX11_may_7 : decode cX11_may 7 = .ok (.aload 5, 2) := by decide +kernel
theorem dX11_may_9 : decode cX11_may 9 = .ok (.ifnull 21, 3) := by decide +kernel
theorem dX11_may_30 : decode cX11_may 30 = .ok (.iconst (-1), 1) := by decide +kernel
theorem dX11_may_31 : decode cX11_may 31 = .ok (.ireturn, 1) := by decide +kernel
theorem m_560 : (Cond.code yX11_plan prog_1_method_10_code 3 (Option.some FieldType.int)) ∈ BW := bw (tb3 80 (by decide +kernel)) (by decide +kernel)
theorem dX11_plan_0 : decode cX11_plan 0 = .ok (.aload_n 0, 1) := by decide +kernel
theorem dX11_plan_1 : decode cX11_plan 1 = .ok (.iload_n 1, 1) := by decide +kernel
theorem dX11_plan_2 : decode cX11_plan 2 = .ok (.invokevirtual 101, 3) := by decide +kernel
theorem dX11_plan_5 : decode cX11_plan 5 = .ok (.astore_n 2, 1) := by decide +kernel
theorem dX11_plan_6 : decode cX11_plan 6 = .ok (.aload_n 2, 1) := by decide +kernel
theorem dX11_plan_7 : decode cX11_plan 7 = .ok (.ifnull 12, 3) := by decide +kernel
theorem dX11_plan_19 : decode cX11_plan 19 = .ok (.iconst (-1), 1) := by decide +kernel
theorem dX11_plan_20 : decode cX11_plan 20 = .ok (.ireturn, 1) := by decide +kernel
theorem m_609 : (Cond.code yX11_call prog_1_method_11_code 8 (Option.some FieldType.int)) ∈ BW := bw (tb3 129 (by decide +kernel)) (by decide +kernel)
theorem dX11_call_0 : decode cX11_call 0 = .ok (.aload_n 0, 1) := by decide +kernel
theorem dX11_call_1 : decode cX11_call 1 = .ok (.iload_n 1, 1) := by decide +kernel
theorem m_610 : (Cond.methodLink "NoonValley" 157 yX11_planAt) ∈ BW := bw (tb3 130 (by decide +kernel)) (by decide +kernel)
theorem m_612 : (Cond.instanceMethod yX11_planAt) ∈ BW := bw (tb3 132 (by decide +kernel)) (by decide +kernel)
theorem s_1_11 : (Cond.selects RX11 yX11_planAt yX11_planAt) ∈ BW := bw (sl1 (y := yX11_planAt) (n := 14) 11 (by decide +kernel)) (by decide +kernel)
theorem vX11_157 : LV RX11 157 RX11 yX11_planAt cX11_planAt 2 (some (.object "NoonValley$Plan")) 1 := ⟨m_610, m_612, s_1_11, m_1, m_613, rfl, by decide, by decide, by decide +kernel⟩
theorem dX11_call_2 : decode cX11_call 2 = .ok (.invokevirtual 157, 3) := by decide +kernel
theorem dX11_call_5 : decode cX11_call 5 = .ok (.astore 6, 2) := by decide +kernel
theorem dX11_call_7 : decode cX11_call 7 = .ok (.aload 6, 2) := by decide +kernel
theorem dX11_call_9 : decode cX11_call 9 = .ok (.ifnull 27, 3) := by decide +kernel
theorem dX11_call_36 : decode cX11_call 36 = .ok (.iconst (-1), 1) := by decide +kernel
theorem dX11_call_37 : decode cX11_call 37 = .ok (.ireturn, 1) := by decide +kernel
theorem m_627 : (Cond.code yX11_lawful prog_1_method_12_code 4 (Option.some FieldType.int)) ∈ BW := bw (tb3 147 (by decide +kernel)) (by decide +kernel)
theorem dX11_lawful_0 : decode cX11_lawful 0 = .ok (.aload_n 0, 1) := by decide +kernel
theorem dX11_lawful_1 : decode cX11_lawful 1 = .ok (.iload_n 1, 1) := by decide +kernel
theorem dX11_lawful_2 : decode cX11_lawful 2 = .ok (.invokevirtual 157, 3) := by decide +kernel
theorem dX11_lawful_5 : decode cX11_lawful 5 = .ok (.astore_n 3, 1) := by decide +kernel
theorem dX11_lawful_6 : decode cX11_lawful 6 = .ok (.aload_n 3, 1) := by decide +kernel
theorem dX11_lawful_7 : decode cX11_lawful 7 = .ok (.ifnull 15, 3) := by decide +kernel
theorem dX11_lawful_22 : decode cX11_lawful 22 = .ok (.iconst (-1), 1) := by decide +kernel
theorem dX11_lawful_23 : decode cX11_lawful 23 = .ok (.ireturn, 1) := by decide +kernel
theorem m_640 : (Cond.code yX11_unlawful prog_1_method_13_code 4 (Option.some FieldType.int)) ∈ BW := bw (tb3 160 (by decide +kernel)) (by decide +kernel)
theorem dX11_unlawful_0 : decode cX11_unlawful 0 = .ok (.aload_n 0, 1) := by decide +kernel
theorem dX11_unlawful_1 : decode cX11_unlawful 1 = .ok (.iload_n 1, 1) := by decide +kernel
theorem dX11_unlawful_2 : decode cX11_unlawful 2 = .ok (.invokevirtual 157, 3) := by decide +kernel
theorem dX11_unlawful_5 : decode cX11_unlawful 5 = .ok (.astore_n 2, 1) := by decide +kernel
theorem dX11_unlawful_6 : decode cX11_unlawful 6 = .ok (.aload_n 2, 1) := by decide +kernel
theorem dX11_unlawful_7 : decode cX11_unlawful 7 = .ok (.ifnonnull 5, 3) := by decide +kernel
theorem dX11_unlawful_10 : decode cX11_unlawful 10 = .ok (.iconst (-1), 1) := by decide +kernel
theorem dX11_unlawful_11 : decode cX11_unlawful 11 = .ok (.ireturn, 1) := by decide +kernel
theorem m_644 : (Cond.code yX11_known prog_1_method_14_code 5 (Option.some FieldType.int)) ∈ BW := bw (tb3 164 (by decide +kernel)) (by decide +kernel)
theorem dX11_known_0 : decode cX11_known 0 = .ok (.aload_n 0, 1) := by decide +kernel
theorem dX11_known_1 : decode cX11_known 1 = .ok (.iload_n 1, 1) := by decide +kernel
theorem dX11_known_2 : decode cX11_known 2 = .ok (.invokevirtual 157, 3) := by decide +kernel
theorem dX11_known_5 : decode cX11_known 5 = .ok (.astore 4, 2) := by decide +kernel
theorem dX11_known_7 : decode cX11_known 7 = .ok (.aload 4, 2) := by decide +kernel
theorem dX11_known_9 : decode cX11_known 9 = .ok (.ifnull 22, 3) := by decide +kernel
theorem dX11_known_31 : decode cX11_known 31 = .ok (.iconst (-1), 1) := by decide +kernel
theorem dX11_known_32 : decode cX11_known 32 = .ok (.ireturn, 1) := by decide +kernel
theorem m_673 : (Cond.code yX11_together prog_1_method_15_code 7 (Option.some FieldType.int)) ∈ BW := bw (tb3 193 (by decide +kernel)) (by decide +kernel)
theorem dX11_together_0 : decode cX11_together 0 = .ok (.aload_n 0, 1) := by decide +kernel
theorem dX11_together_1 : decode cX11_together 1 = .ok (.iload_n 1, 1) := by decide +kernel
theorem dX11_together_2 : decode cX11_together 2 = .ok (.invokevirtual 157, 3) := by decide +kernel
theorem dX11_together_5 : decode cX11_together 5 = .ok (.astore 4, 2) := by decide +kernel
theorem dX11_together_7 : decode cX11_together 7 = .ok (.aload 4, 2) := by decide +kernel
theorem dX11_together_9 : decode cX11_together 9 = .ok (.ifnull 27, 3) := by decide +kernel
theorem dX11_together_36 : decode cX11_together 36 = .ok (.iconst (-1), 1) := by decide +kernel
theorem dX11_together_37 : decode cX11_together 37 = .ok (.ireturn, 1) := by decide +kernel
theorem m_681 : (Cond.code yX11_when prog_1_method_16_code 5 (Option.some FieldType.int)) ∈ BW := bw (tb3 201 (by decide +kernel)) (by decide +kernel)
theorem dX11_when_0 : decode cX11_when 0 = .ok (.aload_n 0, 1) := by decide +kernel
theorem dX11_when_1 : decode cX11_when 1 = .ok (.iload_n 1, 1) := by decide +kernel
theorem dX11_when_2 : decode cX11_when 2 = .ok (.invokevirtual 157, 3) := by decide +kernel
theorem dX11_when_5 : decode cX11_when 5 = .ok (.astore_n 3, 1) := by decide +kernel
theorem dX11_when_6 : decode cX11_when 6 = .ok (.aload_n 3, 1) := by decide +kernel
theorem dX11_when_7 : decode cX11_when 7 = .ok (.ifnull 12, 3) := by decide +kernel
theorem dX11_when_19 : decode cX11_when 19 = .ok (.iconst (-1), 1) := by decide +kernel
theorem dX11_when_20 : decode cX11_when 20 = .ok (.ireturn, 1) := by decide +kernel
theorem m_693 : (Cond.code yX11_least prog_1_method_17_code 5 (Option.some FieldType.int)) ∈ BW := bw (tb3 213 (by decide +kernel)) (by decide +kernel)
theorem dX11_least_0 : decode cX11_least 0 = .ok (.aload_n 0, 1) := by decide +kernel
theorem dX11_least_1 : decode cX11_least 1 = .ok (.iload_n 1, 1) := by decide +kernel
theorem dX11_least_2 : decode cX11_least 2 = .ok (.invokevirtual 101, 3) := by decide +kernel
theorem dX11_least_5 : decode cX11_least 5 = .ok (.astore 4, 2) := by decide +kernel
theorem dX11_least_7 : decode cX11_least 7 = .ok (.aload 4, 2) := by decide +kernel
theorem dX11_least_9 : decode cX11_least 9 = .ok (.ifnull 17, 3) := by decide +kernel
theorem dX11_least_26 : decode cX11_least 26 = .ok (.iconst (-1), 1) := by decide +kernel
theorem dX11_least_27 : decode cX11_least 27 = .ok (.ireturn, 1) := by decide +kernel
theorem m_784 : (Cond.code yX11_found prog_1_method_18_code 8 (Option.some FieldType.int)) ∈ BW := bw (tb4 64 (by decide +kernel)) (by decide +kernel)
theorem dX11_found_0 : decode cX11_found 0 = .ok (.aload_n 0, 1) := by decide +kernel
theorem dX11_found_1 : decode cX11_found 1 = .ok (.iload_n 1, 1) := by decide +kernel
theorem dX11_found_2 : decode cX11_found 2 = .ok (.invokevirtual 101, 3) := by decide +kernel
theorem dX11_found_5 : decode cX11_found 5 = .ok (.astore 6, 2) := by decide +kernel
theorem dX11_found_7 : decode cX11_found 7 = .ok (.aload 6, 2) := by decide +kernel
theorem dX11_found_9 : decode cX11_found 9 = .ok (.ifnull 32, 3) := by decide +kernel
theorem dX11_found_41 : decode cX11_found 41 = .ok (.iconst (-1), 1) := by decide +kernel
theorem dX11_found_42 : decode cX11_found 42 = .ok (.ireturn, 1) := by decide +kernel
theorem m_804 : (Cond.code yX11_reach prog_1_method_19_code 6 (Option.some FieldType.int)) ∈ BW := bw (tb4 84 (by decide +kernel)) (by decide +kernel)
theorem dX11_reach_0 : decode cX11_reach 0 = .ok (.aload_n 0, 1) := by decide +kernel
theorem dX11_reach_1 : decode cX11_reach 1 = .ok (.iload_n 1, 1) := by decide +kernel
theorem dX11_reach_2 : decode cX11_reach 2 = .ok (.invokevirtual 101, 3) := by decide +kernel
theorem dX11_reach_5 : decode cX11_reach 5 = .ok (.astore 5, 2) := by decide +kernel
theorem dX11_reach_7 : decode cX11_reach 7 = .ok (.aload 5, 2) := by decide +kernel
theorem dX11_reach_9 : decode cX11_reach 9 = .ok (.ifnull 31, 3) := by decide +kernel
theorem dX11_reach_40 : decode cX11_reach 40 = .ok (.iconst (-1), 1) := by decide +kernel
theorem dX11_reach_41 : decode cX11_reach 41 = .ok (.ireturn, 1) := by decide +kernel
theorem m_821 : (Cond.code yX11_from prog_1_method_20_code 5 (Option.some FieldType.int)) ∈ BW := bw (tb4 101 (by decide +kernel)) (by decide +kernel)
theorem dX11_from_0 : decode cX11_from 0 = .ok (.aload_n 0, 1) := by decide +kernel
theorem dX11_from_1 : decode cX11_from 1 = .ok (.iload_n 1, 1) := by decide +kernel
theorem dX11_from_2 : decode cX11_from 2 = .ok (.invokevirtual 157, 3) := by decide +kernel
theorem dX11_from_5 : decode cX11_from 5 = .ok (.astore 4, 2) := by decide +kernel
theorem dX11_from_7 : decode cX11_from 7 = .ok (.aload 4, 2) := by decide +kernel
theorem dX11_from_9 : decode cX11_from 9 = .ok (.ifnull 23, 3) := by decide +kernel
theorem dX11_from_32 : decode cX11_from 32 = .ok (.iconst (-1), 1) := by decide +kernel
theorem dX11_from_33 : decode cX11_from 33 = .ok (.ireturn, 1) := by decide +kernel
theorem m_836 : (Cond.code yX11_added prog_1_method_21_code 5 (Option.some FieldType.int)) ∈ BW := bw (tb4 116 (by decide +kernel)) (by decide +kernel)
theorem dX11_added_0 : decode cX11_added 0 = .ok (.aload_n 0, 1) := by decide +kernel
theorem dX11_added_1 : decode cX11_added 1 = .ok (.iload_n 1, 1) := by decide +kernel
theorem dX11_added_2 : decode cX11_added 2 = .ok (.invokevirtual 101, 3) := by decide +kernel
theorem dX11_added_5 : decode cX11_added 5 = .ok (.astore 4, 2) := by decide +kernel
theorem dX11_added_7 : decode cX11_added 7 = .ok (.aload 4, 2) := by decide +kernel
theorem dX11_added_9 : decode cX11_added 9 = .ok (.ifnull 32, 3) := by decide +kernel
theorem dX11_added_41 : decode cX11_added 41 = .ok (.iconst (-1), 1) := by decide +kernel
theorem dX11_added_42 : decode cX11_added 42 = .ok (.ireturn, 1) := by decide +kernel
theorem m_857 : (Cond.code yX11_shut prog_1_method_22_code 6 (Option.some FieldType.int)) ∈ BW := bw (tb4 137 (by decide +kernel)) (by decide +kernel)
theorem dX11_shut_0 : decode cX11_shut 0 = .ok (.aload_n 0, 1) := by decide +kernel
theorem dX11_shut_1 : decode cX11_shut 1 = .ok (.iload_n 1, 1) := by decide +kernel
theorem dX11_shut_2 : decode cX11_shut 2 = .ok (.invokevirtual 101, 3) := by decide +kernel
theorem dX11_shut_5 : decode cX11_shut 5 = .ok (.astore 5, 2) := by decide +kernel
theorem dX11_shut_7 : decode cX11_shut 7 = .ok (.aload 5, 2) := by decide +kernel
theorem dX11_shut_9 : decode cX11_shut 9 = .ok (.ifnull 27, 3) := by decide +kernel
theorem dX11_shut_36 : decode cX11_shut 36 = .ok (.iconst (-1), 1) := by decide +kernel
theorem dX11_shut_37 : decode cX11_shut 37 = .ok (.ireturn, 1) := by decide +kernel
theorem m_882 : (Cond.code yX11_fewest prog_1_method_23_code 3 (Option.some FieldType.int)) ∈ BW := bw (tb4 162 (by decide +kernel)) (by decide +kernel)
theorem dX11_fewest_0 : decode cX11_fewest 0 = .ok (.aload_n 0, 1) := by decide +kernel
theorem dX11_fewest_1 : decode cX11_fewest 1 = .ok (.iload_n 1, 1) := by decide +kernel
theorem dX11_fewest_2 : decode cX11_fewest 2 = .ok (.invokevirtual 101, 3) := by decide +kernel
theorem dX11_fewest_5 : decode cX11_fewest 5 = .ok (.astore_n 2, 1) := by decide +kernel
theorem dX11_fewest_6 : decode cX11_fewest 6 = .ok (.aload_n 2, 1) := by decide +kernel
theorem dX11_fewest_7 : decode cX11_fewest 7 = .ok (.ifnonnull 7, 3) := by decide +kernel
theorem dX11_fewest_10 : decode cX11_fewest 10 = .ok (.iconst (-1), 1) := by decide +kernel
theorem dX11_fewest_11 : decode cX11_fewest 11 = .ok (.goto 11, 3) := by decide +kernel
theorem dX11_fewest_22 : decode cX11_fewest 22 = .ok (.ireturn, 1) := by decide +kernel
theorem m_922 : (Cond.code yX11_gossip prog_1_method_24_code 4 (Option.some FieldType.int)) ∈ BW := bw (tb4 202 (by decide +kernel)) (by decide +kernel)
theorem dX11_gossip_0 : decode cX11_gossip 0 = .ok (.aload_n 0, 1) := by decide +kernel
theorem dX11_gossip_1 : decode cX11_gossip 1 = .ok (.iload_n 1, 1) := by decide +kernel
theorem dX11_gossip_2 : decode cX11_gossip 2 = .ok (.invokevirtual 101, 3) := by decide +kernel
theorem dX11_gossip_5 : decode cX11_gossip 5 = .ok (.astore_n 3, 1) := by decide +kernel
theorem dX11_gossip_6 : decode cX11_gossip 6 = .ok (.aload_n 3, 1) := by decide +kernel
theorem dX11_gossip_7 : decode cX11_gossip 7 = .ok (.ifnull 19, 3) := by decide +kernel
theorem dX11_gossip_26 : decode cX11_gossip 26 = .ok (.iconst (-1), 1) := by decide +kernel
theorem dX11_gossip_27 : decode cX11_gossip 27 = .ok (.ireturn, 1) := by decide +kernel
theorem m_926 : (Cond.code yX11_ends prog_1_method_25_code 4 (Option.some FieldType.int)) ∈ BW := bw (tb4 206 (by decide +kernel)) (by decide +kernel)
theorem dX11_ends_0 : decode cX11_ends 0 = .ok (.aload_n 0, 1) := by decide +kernel
theorem dX11_ends_1 : decode cX11_ends 1 = .ok (.iload_n 1, 1) := by decide +kernel
theorem dX11_ends_2 : decode cX11_ends 2 = .ok (.invokevirtual 101, 3) := by decide +kernel
theorem dX11_ends_5 : decode cX11_ends 5 = .ok (.astore_n 3, 1) := by decide +kernel
theorem dX11_ends_6 : decode cX11_ends 6 = .ok (.aload_n 3, 1) := by decide +kernel
theorem dX11_ends_7 : decode cX11_ends 7 = .ok (.ifnull 19, 3) := by decide +kernel
theorem dX11_ends_26 : decode cX11_ends 26 = .ok (.iconst (-1), 1) := by decide +kernel
theorem dX11_ends_27 : decode cX11_ends 27 = .ok (.ireturn, 1) := by decide +kernel
theorem m_933 : (Cond.code yX11_trade prog_1_method_26_code 6 (Option.some FieldType.int)) ∈ BW := bw (tb4 213 (by decide +kernel)) (by decide +kernel)
theorem dX11_trade_0 : decode cX11_trade 0 = .ok (.aload_n 0, 1) := by decide +kernel
theorem dX11_trade_1 : decode cX11_trade 1 = .ok (.iload_n 1, 1) := by decide +kernel
theorem dX11_trade_2 : decode cX11_trade 2 = .ok (.invokevirtual 101, 3) := by decide +kernel
theorem dX11_trade_5 : decode cX11_trade 5 = .ok (.astore 4, 2) := by decide +kernel
theorem dX11_trade_7 : decode cX11_trade 7 = .ok (.aload 4, 2) := by decide +kernel
theorem dX11_trade_9 : decode cX11_trade 9 = .ok (.ifnull 32, 3) := by decide +kernel
theorem dX11_trade_41 : decode cX11_trade 41 = .ok (.iconst (-1), 1) := by decide +kernel
theorem dX11_trade_42 : decode cX11_trade 42 = .ok (.ireturn, 1) := by decide +kernel
theorem m_981 : (Cond.code yX11_card prog_1_method_27_code 5 (Option.some FieldType.int)) ∈ BW := bw (tb5 21 (by decide +kernel)) (by decide +kernel)
theorem dX11_card_0 : decode cX11_card 0 = .ok (.aload_n 0, 1) := by decide +kernel
theorem dX11_card_1 : decode cX11_card 1 = .ok (.iload_n 1, 1) := by decide +kernel
theorem dX11_card_2 : decode cX11_card 2 = .ok (.invokevirtual 101, 3) := by decide +kernel
theorem dX11_card_5 : decode cX11_card 5 = .ok (.astore 4, 2) := by decide +kernel
theorem dX11_card_7 : decode cX11_card 7 = .ok (.aload 4, 2) := by decide +kernel
theorem dX11_card_9 : decode cX11_card 9 = .ok (.ifnull 13, 3) := by decide +kernel
theorem dX11_card_22 : decode cX11_card 22 = .ok (.iconst (-1), 1) := by decide +kernel
theorem dX11_card_23 : decode cX11_card 23 = .ok (.ireturn, 1) := by decide +kernel
theorem m_989 : (Cond.code yX11_blank prog_1_method_28_code 3 (Option.some FieldType.boolean)) ∈ BW := bw (tb5 29 (by decide +kernel)) (by decide +kernel)
theorem dX11_blank_0 : decode cX11_blank 0 = .ok (.aload_n 0, 1) := by decide +kernel
theorem dX11_blank_1 : decode cX11_blank 1 = .ok (.iload_n 1, 1) := by decide +kernel
theorem dX11_blank_2 : decode cX11_blank 2 = .ok (.invokevirtual 101, 3) := by decide +kernel
theorem dX11_blank_5 : decode cX11_blank 5 = .ok (.astore_n 2, 1) := by decide +kernel
theorem dX11_blank_6 : decode cX11_blank 6 = .ok (.aload_n 2, 1) := by decide +kernel
theorem dX11_blank_7 : decode cX11_blank 7 = .ok (.ifnonnull 5, 3) := by decide +kernel
theorem dX11_blank_10 : decode cX11_blank 10 = .ok (.iconst 0, 1) := by decide +kernel
theorem dX11_blank_11 : decode cX11_blank 11 = .ok (.ireturn, 1) := by decide +kernel
theorem m_997 : (Cond.code yX11_kept prog_1_method_29_code 4 (Option.some FieldType.int)) ∈ BW := bw (tb5 37 (by decide +kernel)) (by decide +kernel)
theorem dX11_kept_0 : decode cX11_kept 0 = .ok (.aload_n 0, 1) := by decide +kernel
theorem dX11_kept_1 : decode cX11_kept 1 = .ok (.iload_n 1, 1) := by decide +kernel
theorem dX11_kept_2 : decode cX11_kept 2 = .ok (.invokevirtual 101, 3) := by decide +kernel
theorem dX11_kept_5 : decode cX11_kept 5 = .ok (.astore_n 3, 1) := by decide +kernel
theorem dX11_kept_6 : decode cX11_kept 6 = .ok (.aload_n 3, 1) := by decide +kernel
theorem dX11_kept_7 : decode cX11_kept 7 = .ok (.ifnull 11, 3) := by decide +kernel
theorem dX11_kept_18 : decode cX11_kept 18 = .ok (.iconst (-1), 1) := by decide +kernel
theorem dX11_kept_19 : decode cX11_kept 19 = .ok (.ireturn, 1) := by decide +kernel
theorem m_1017 : (Cond.code yX11_tree prog_1_method_30_code 6 (Option.some FieldType.int)) ∈ BW := bw (tb5 57 (by decide +kernel)) (by decide +kernel)
theorem dX11_tree_0 : decode cX11_tree 0 = .ok (.aload_n 0, 1) := by decide +kernel
theorem dX11_tree_1 : decode cX11_tree 1 = .ok (.iload_n 1, 1) := by decide +kernel
theorem dX11_tree_2 : decode cX11_tree 2 = .ok (.invokevirtual 101, 3) := by decide +kernel
theorem dX11_tree_5 : decode cX11_tree 5 = .ok (.astore 5, 2) := by decide +kernel
theorem dX11_tree_7 : decode cX11_tree 7 = .ok (.aload 5, 2) := by decide +kernel
theorem dX11_tree_9 : decode cX11_tree 9 = .ok (.ifnull 40, 3) := by decide +kernel
theorem dX11_tree_49 : decode cX11_tree 49 = .ok (.iconst (-1), 1) := by decide +kernel
theorem dX11_tree_50 : decode cX11_tree 50 = .ok (.ireturn, 1) := by decide +kernel
theorem m_1044 : (Cond.code yX11_breaks prog_1_method_31_code 5 (Option.some FieldType.int)) ∈ BW := bw (tb5 84 (by decide +kernel)) (by decide +kernel)
theorem dX11_breaks_0 : decode cX11_breaks 0 = .ok (.aload_n 0, 1) := by decide +kernel
theorem dX11_breaks_1 : decode cX11_breaks 1 = .ok (.iload_n 1, 1) := by decide +kernel
theorem dX11_breaks_2 : decode cX11_breaks 2 = .ok (.invokevirtual 157, 3) := by decide +kernel
theorem dX11_breaks_5 : decode cX11_breaks 5 = .ok (.astore_n 3, 1) := by decide +kernel
theorem dX11_breaks_6 : decode cX11_breaks 6 = .ok (.aload_n 3, 1) := by decide +kernel
theorem dX11_breaks_7 : decode cX11_breaks 7 = .ok (.ifnull 8, 3) := by decide +kernel
theorem dX11_breaks_15 : decode cX11_breaks 15 = .ok (.iconst (-1), 1) := by decide +kernel
theorem dX11_breaks_16 : decode cX11_breaks 16 = .ok (.ireturn, 1) := by decide +kernel
theorem m_1066 : (Cond.code yX11_breaker prog_1_method_32_code 3 (Option.some FieldType.int)) ∈ BW := bw (tb5 106 (by decide +kernel)) (by decide +kernel)
theorem dX11_breaker_0 : decode cX11_breaker 0 = .ok (.aload_n 0, 1) := by decide +kernel
theorem dX11_breaker_1 : decode cX11_breaker 1 = .ok (.iload_n 1, 1) := by decide +kernel
theorem dX11_breaker_2 : decode cX11_breaker 2 = .ok (.invokevirtual 157, 3) := by decide +kernel
theorem dX11_breaker_5 : decode cX11_breaker 5 = .ok (.astore_n 2, 1) := by decide +kernel
theorem dX11_breaker_6 : decode cX11_breaker 6 = .ok (.aload_n 2, 1) := by decide +kernel
theorem dX11_breaker_7 : decode cX11_breaker 7 = .ok (.ifnonnull 7, 3) := by decide +kernel
theorem dX11_breaker_10 : decode cX11_breaker 10 = .ok (.iconst (-1), 1) := by decide +kernel
theorem dX11_breaker_11 : decode cX11_breaker 11 = .ok (.goto 11, 3) := by decide +kernel
theorem dX11_breaker_22 : decode cX11_breaker 22 = .ok (.ireturn, 1) := by decide +kernel
theorem m_1108 : (Cond.code yX11_tale prog_1_method_35_code 6 (Option.some FieldType.boolean)) ∈ BW := bw (tb5 148 (by decide +kernel)) (by decide +kernel)
theorem dX11_tale_0 : decode cX11_tale 0 = .ok (.aload_n 0, 1) := by decide +kernel
theorem dX11_tale_1 : decode cX11_tale 1 = .ok (.iload_n 1, 1) := by decide +kernel
theorem dX11_tale_2 : decode cX11_tale 2 = .ok (.invokevirtual 101, 3) := by decide +kernel
theorem dX11_tale_5 : decode cX11_tale 5 = .ok (.astore 5, 2) := by decide +kernel
theorem dX11_tale_7 : decode cX11_tale 7 = .ok (.aload 5, 2) := by decide +kernel
theorem dX11_tale_9 : decode cX11_tale 9 = .ok (.ifnull 33, 3) := by decide +kernel
theorem dX11_tale_42 : decode cX11_tale 42 = .ok (.iconst 0, 1) := by decide +kernel
theorem dX11_tale_43 : decode cX11_tale 43 = .ok (.ireturn, 1) := by decide +kernel
theorem m_1116 : (Cond.code yX11_who prog_1_method_36_code 6 (Option.some FieldType.int)) ∈ BW := bw (tb5 156 (by decide +kernel)) (by decide +kernel)
theorem dX11_who_0 : decode cX11_who 0 = .ok (.aload_n 0, 1) := by decide +kernel
theorem dX11_who_1 : decode cX11_who 1 = .ok (.iload_n 1, 1) := by decide +kernel
theorem dX11_who_2 : decode cX11_who 2 = .ok (.invokevirtual 101, 3) := by decide +kernel
theorem dX11_who_5 : decode cX11_who 5 = .ok (.astore_n 3, 1) := by decide +kernel
theorem dX11_who_6 : decode cX11_who 6 = .ok (.aload_n 3, 1) := by decide +kernel
theorem dX11_who_7 : decode cX11_who 7 = .ok (.ifnull 10, 3) := by decide +kernel
theorem dX11_who_17 : decode cX11_who 17 = .ok (.iconst (-1), 1) := by decide +kernel
theorem dX11_who_18 : decode cX11_who 18 = .ok (.ireturn, 1) := by decide +kernel
theorem m_1143 : (Cond.code yX11_fits prog_1_method_37_code 8 (Option.some FieldType.int)) ∈ BW := bw (tb5 183 (by decide +kernel)) (by decide +kernel)
theorem dX11_fits_0 : decode cX11_fits 0 = .ok (.aload_n 0, 1) := by decide +kernel
theorem dX11_fits_1 : decode cX11_fits 1 = .ok (.iload_n 1, 1) := by decide +kernel
theorem dX11_fits_2 : decode cX11_fits 2 = .ok (.invokevirtual 157, 3) := by decide +kernel
theorem dX11_fits_5 : decode cX11_fits 5 = .ok (.astore_n 3, 1) := by decide +kernel
theorem dX11_fits_6 : decode cX11_fits 6 = .ok (.aload_n 3, 1) := by decide +kernel
theorem dX11_fits_7 : decode cX11_fits 7 = .ok (.ifnull 10, 3) := by decide +kernel
theorem dX11_fits_17 : decode cX11_fits 17 = .ok (.iconst (-1), 1) := by decide +kernel
theorem dX11_fits_18 : decode cX11_fits 18 = .ok (.ireturn, 1) := by decide +kernel
set_option maxHeartbeats 4000000 in
set_option maxRecDepth 100000 in
theorem C_X11_valleyAt (l : Launch) (g : GG) (h0 a0 a1 a2 a3 a4 a5 a6 a7 a8 a9 a10 : Nat) (p0 : Int32) : MetQ l g yX11_valleyAt cX11_valleyAt 2 (some (.object "NoonValley$Valley")) 0 0 0 [.ref h0, .int p0] [(h0, .inr (11, [.ref a0, .ref a1, .ref a2, .ref a3, .ref a4, .ref a5, .ref a6, .ref a7, .ref a8, .ref a9, .ref a10, .int 0, .int 0, .int 0]))] (fun r u => r = none ∧ u = [(h0, .inr (11, [.ref a0, .ref a1, .ref a2, .ref a3, .ref a4, .ref a5, .ref a6, .ref a7, .ref a8, .ref a9, .ref a10, .int 0, .int 0, .int 0]))]) := by
  refine MetQ.of (own := RX11) rfl (by decide) (Nat.le_of_ble_eq_true rfl) ?_
  intro p e s m below meth c A ls args Q hQ X hr hin hW hl
  have hx := X.1
  have hb := X.2.1
  have hl : lv_has ls 2 [(0, .ref h0), (1, .int p0)] := hl
  refine lv_iload_n (pc := 0) hx hb dX11_valleyAt_0 rfl (lv_at hl 1 rfl) ?_
  refine lv_if_lt (tgt := 12) (pc := 1) hx hb dX11_valleyAt_1 rfl (fun c1 => ?_) (fun c1 => ?_)
  · refine lv_null (pc := 12) hx hb dX11_valleyAt_12 ?_
    refine lv_goto (tgt := 22) (pc := 13) hx hb dX11_valleyAt_13 rfl ?_
    exact e_q X hQ hr (Or.inl ⟨_, rfl⟩) hW (u := [(h0, .inr (11, [.ref a0, .ref a1, .ref a2, .ref a3, .ref a4, .ref a5, .ref a6, .ref a7, .ref a8, .ref a9, .ref a10, .int 0, .int 0, .int 0]))]) none rfl [0] rfl rfl (⟨rfl, rfl⟩) ⟨Nat.le_of_ble_eq_true rfl, Nat.le_of_ble_eq_true rfl⟩ dX11_valleyAt_22
  · refine lv_iload_n (pc := 4) hx hb dX11_valleyAt_4 rfl (lv_at hl 1 rfl) ?_
    refine lv_aload_n (pc := 5) hx hb dX11_valleyAt_5 rfl (lv_at hl 0 rfl) ?_
    refine r_get X hW 0 ciX11 11 rfl (by decide) m_364 rfl rfl dX11_valleyAt_6 ?_
    refine lv_icmp_lt (tgt := 16) (pc := 9) hx hb dX11_valleyAt_9 rfl (fun c2 => absurd c2 c1) (fun c2 => ?_)
    refine lv_null (pc := 12) hx hb dX11_valleyAt_12 ?_
    refine lv_goto (tgt := 22) (pc := 13) hx hb dX11_valleyAt_13 rfl ?_
    exact e_q X hQ hr (Or.inl ⟨_, rfl⟩) hW (u := [(h0, .inr (11, [.ref a0, .ref a1, .ref a2, .ref a3, .ref a4, .ref a5, .ref a6, .ref a7, .ref a8, .ref a9, .ref a10, .int 0, .int 0, .int 0]))]) none rfl [0] rfl rfl (⟨rfl, rfl⟩) ⟨Nat.le_of_ble_eq_true rfl, Nat.le_of_ble_eq_true rfl⟩ dX11_valleyAt_22

set_option maxHeartbeats 4000000 in
set_option maxRecDepth 100000 in
theorem C_X11_planAt (l : Launch) (g : GG) (h0 a0 a1 a2 a3 a4 a5 a6 a7 a8 a9 a10 : Nat) (p0 : Int32) : MetQ l g yX11_planAt cX11_planAt 2 (some (.object "NoonValley$Plan")) 0 0 0 [.ref h0, .int p0] [(h0, .inr (11, [.ref a0, .ref a1, .ref a2, .ref a3, .ref a4, .ref a5, .ref a6, .ref a7, .ref a8, .ref a9, .ref a10, .int 0, .int 0, .int 0]))] (fun r u => r = none ∧ u = [(h0, .inr (11, [.ref a0, .ref a1, .ref a2, .ref a3, .ref a4, .ref a5, .ref a6, .ref a7, .ref a8, .ref a9, .ref a10, .int 0, .int 0, .int 0]))]) := by
  refine MetQ.of (own := RX11) rfl (by decide) (Nat.le_of_ble_eq_true rfl) ?_
  intro p e s m below meth c A ls args Q hQ X hr hin hW hl
  have hx := X.1
  have hb := X.2.1
  have hl : lv_has ls 2 [(0, .ref h0), (1, .int p0)] := hl
  refine lv_iload_n (pc := 0) hx hb dX11_planAt_0 rfl (lv_at hl 1 rfl) ?_
  refine lv_if_lt (tgt := 12) (pc := 1) hx hb dX11_planAt_1 rfl (fun c1 => ?_) (fun c1 => ?_)
  · refine lv_null (pc := 12) hx hb dX11_planAt_12 ?_
    refine lv_goto (tgt := 22) (pc := 13) hx hb dX11_planAt_13 rfl ?_
    exact e_q X hQ hr (Or.inl ⟨_, rfl⟩) hW (u := [(h0, .inr (11, [.ref a0, .ref a1, .ref a2, .ref a3, .ref a4, .ref a5, .ref a6, .ref a7, .ref a8, .ref a9, .ref a10, .int 0, .int 0, .int 0]))]) none rfl [0] rfl rfl (⟨rfl, rfl⟩) ⟨Nat.le_of_ble_eq_true rfl, Nat.le_of_ble_eq_true rfl⟩ dX11_planAt_22
  · refine lv_iload_n (pc := 4) hx hb dX11_planAt_4 rfl (lv_at hl 1 rfl) ?_
    refine lv_aload_n (pc := 5) hx hb dX11_planAt_5 rfl (lv_at hl 0 rfl) ?_
    refine r_get X hW 0 ciX11 12 rfl (by decide) m_365 rfl rfl dX11_planAt_6 ?_
    refine lv_icmp_lt (tgt := 16) (pc := 9) hx hb dX11_planAt_9 rfl (fun c2 => absurd c2 c1) (fun c2 => ?_)
    refine lv_null (pc := 12) hx hb dX11_planAt_12 ?_
    refine lv_goto (tgt := 22) (pc := 13) hx hb dX11_planAt_13 rfl ?_
    exact e_q X hQ hr (Or.inl ⟨_, rfl⟩) hW (u := [(h0, .inr (11, [.ref a0, .ref a1, .ref a2, .ref a3, .ref a4, .ref a5, .ref a6, .ref a7, .ref a8, .ref a9, .ref a10, .int 0, .int 0, .int 0]))]) none rfl [0] rfl rfl (⟨rfl, rfl⟩) ⟨Nat.le_of_ble_eq_true rfl, Nat.le_of_ble_eq_true rfl⟩ dX11_planAt_22

set_option maxHeartbeats 4000000 in
set_option maxRecDepth 100000 in
theorem C_X11_told (l : Launch) (g : GG) (h0 a0 a1 a2 a3 a4 a5 a6 a7 a8 a9 a10 : Nat) (p0 : Int32) (p1 : Int32) : MetI l g yX11_told cX11_told 5 (some .int) 1 0 0 [.ref h0, .int p0, .int p1] [(h0, .inr (11, [.ref a0, .ref a1, .ref a2, .ref a3, .ref a4, .ref a5, .ref a6, .ref a7, .ref a8, .ref a9, .ref a10, .int 0, .int 0, .int 0]))] (fun r u => r = (-1) ∧ u = [(h0, .inr (11, [.ref a0, .ref a1, .ref a2, .ref a3, .ref a4, .ref a5, .ref a6, .ref a7, .ref a8, .ref a9, .ref a10, .int 0, .int 0, .int 0]))]) := by
  refine MetI.of (own := RX11) rfl (by decide) (Nat.le_of_ble_eq_true rfl) ?_
  intro p e s m below meth c A ls args Q hQ X hr hin hW hl
  have hx := X.1
  have hb := X.2.1
  have hl : lv_has ls 5 [(0, .ref h0), (1, .int p0), (2, .int p1)] := hl
  refine lv_aload_n (pc := 0) hx hb dX11_told_0 rfl (lv_at hl 0 rfl) ?_
  refine lv_iload_n (pc := 1) hx hb dX11_told_1 rfl (lv_at hl 1 rfl) ?_
  refine c_Vq (pc := 2) (As := [.int p0]) (rest := []) (wr := []) X hW 0 ciX11 rfl (C_X11_valleyAt l g h0 a0 a1 a2 a3 a4 a5 a6 a7 a8 a9 a10 p0) vX11_101 [0] [] rfl rfl rfl rfl rfl rfl hl.1 rfl (Nat.le_of_ble_eq_true rfl) ⟨Nat.le_of_ble_eq_true rfl, Nat.le_of_ble_eq_true rfl⟩ ⟨Nat.le_of_ble_eq_true rfl, Nat.le_of_ble_eq_true rfl⟩ dX11_told_2 (fun r1 u9 H locs hq hW => ?_)
  obtain ⟨rfl, rfl⟩ := hq
  have hW : WD g A s _ _ [(h0, .inr (11, [.ref a0, .ref a1, .ref a2, .ref a3, .ref a4, .ref a5, .ref a6, .ref a7, .ref a8, .ref a9, .ref a10, .int 0, .int 0, .int 0]))] := hW
  refine lv_astore_nN (lv' := [(3, .null), (0, .ref h0), (1, .int p0), (2, .int p1)]) (pc := 5) hx hb dX11_told_5 rfl hl (by decide) rfl (fun ls hl => ?_)
  refine lv_aload_nN (pc := 6) hx hb dX11_told_6 rfl (lv_at hl 0 rfl) ?_
  refine lv_ifnullN (tgt := 14) (pc := 7) hx hb dX11_told_7 rfl ?_
  refine lv_iconst (v := (-1)) (pc := 14) hx hb dX11_told_14 (by decide) ?_
  exact e_i X hQ hr hW (u := [(h0, .inr (11, [.ref a0, .ref a1, .ref a2, .ref a3, .ref a4, .ref a5, .ref a6, .ref a7, .ref a8, .ref a9, .ref a10, .int 0, .int 0, .int 0]))]) [0] rfl rfl (⟨rfl, rfl⟩) ⟨Nat.le_of_ble_eq_true rfl, Nat.le_of_ble_eq_true rfl⟩ dX11_told_15

set_option maxHeartbeats 4000000 in
set_option maxRecDepth 100000 in
theorem C_X11_down (l : Launch) (g : GG) (h0 a0 a1 a2 a3 a4 a5 a6 a7 a8 a9 a10 : Nat) (p0 : Int32) (p1 : Int32) (p2 : Int32) : MetI l g yX11_down cX11_down 5 (some .boolean) 1 0 0 [.ref h0, .int p0, .int p1, .int p2] [(h0, .inr (11, [.ref a0, .ref a1, .ref a2, .ref a3, .ref a4, .ref a5, .ref a6, .ref a7, .ref a8, .ref a9, .ref a10, .int 0, .int 0, .int 0]))] (fun r u => r = 0 ∧ u = [(h0, .inr (11, [.ref a0, .ref a1, .ref a2, .ref a3, .ref a4, .ref a5, .ref a6, .ref a7, .ref a8, .ref a9, .ref a10, .int 0, .int 0, .int 0]))]) := by
  refine MetI.of (own := RX11) rfl (by decide) (Nat.le_of_ble_eq_true rfl) ?_
  intro p e s m below meth c A ls args Q hQ X hr hin hW hl
  have hx := X.1
  have hb := X.2.1
  have hl : lv_has ls 5 [(0, .ref h0), (1, .int p0), (2, .int p1), (3, .int p2)] := hl
  refine lv_aload_n (pc := 0) hx hb dX11_down_0 rfl (lv_at hl 0 rfl) ?_
  refine lv_iload_n (pc := 1) hx hb dX11_down_1 rfl (lv_at hl 1 rfl) ?_
  refine c_Vq (pc := 2) (As := [.int p0]) (rest := []) (wr := []) X hW 0 ciX11 rfl (C_X11_valleyAt l g h0 a0 a1 a2 a3 a4 a5 a6 a7 a8 a9 a10 p0) vX11_101 [0] [] rfl rfl rfl rfl rfl rfl hl.1 rfl (Nat.le_of_ble_eq_true rfl) ⟨Nat.le_of_ble_eq_true rfl, Nat.le_of_ble_eq_true rfl⟩ ⟨Nat.le_of_ble_eq_true rfl, Nat.le_of_ble_eq_true rfl⟩ dX11_down_2 (fun r1 u9 H locs hq hW => ?_)
  obtain ⟨rfl, rfl⟩ := hq
  have hW : WD g A s _ _ [(h0, .inr (11, [.ref a0, .ref a1, .ref a2, .ref a3, .ref a4, .ref a5, .ref a6, .ref a7, .ref a8, .ref a9, .ref a10, .int 0, .int 0, .int 0]))] := hW
  refine lv_astoreN (lv' := [(4, .null), (0, .ref h0), (1, .int p0), (2, .int p1), (3, .int p2)]) (pc := 5) hx hb dX11_down_5 hl (by decide) rfl (fun ls hl => ?_)
  refine lv_aloadN (pc := 7) hx hb dX11_down_7 (lv_at hl 0 rfl) ?_
  refine lv_ifnullN (tgt := 33) (pc := 9) hx hb dX11_down_9 rfl ?_
  refine lv_iconst (v := 0) (pc := 33) hx hb dX11_down_33 (by decide) ?_
  exact e_z X hQ hr hW (u := [(h0, .inr (11, [.ref a0, .ref a1, .ref a2, .ref a3, .ref a4, .ref a5, .ref a6, .ref a7, .ref a8, .ref a9, .ref a10, .int 0, .int 0, .int 0]))]) rfl [0] rfl rfl (⟨rfl, rfl⟩) ⟨Nat.le_of_ble_eq_true rfl, Nat.le_of_ble_eq_true rfl⟩ dX11_down_34

set_option maxHeartbeats 4000000 in
set_option maxRecDepth 100000 in
theorem C_X11_may (l : Launch) (g : GG) (h0 a0 a1 a2 a3 a4 a5 a6 a7 a8 a9 a10 : Nat) (p0 : Int32) (p1 : Int32) (p2 : Int32) (p3 : Int32) : MetI l g yX11_may cX11_may 6 (some .int) 1 0 0 [.ref h0, .int p0, .int p1, .int p2, .int p3] [(h0, .inr (11, [.ref a0, .ref a1, .ref a2, .ref a3, .ref a4, .ref a5, .ref a6, .ref a7, .ref a8, .ref a9, .ref a10, .int 0, .int 0, .int 0]))] (fun r u => r = (-1) ∧ u = [(h0, .inr (11, [.ref a0, .ref a1, .ref a2, .ref a3, .ref a4, .ref a5, .ref a6, .ref a7, .ref a8, .ref a9, .ref a10, .int 0, .int 0, .int 0]))]) := by
  refine MetI.of (own := RX11) rfl (by decide) (Nat.le_of_ble_eq_true rfl) ?_
  intro p e s m below meth c A ls args Q hQ X hr hin hW hl
  have hx := X.1
  have hb := X.2.1
  have hl : lv_has ls 6 [(0, .ref h0), (1, .int p0), (2, .int p1), (3, .int p2), (4, .int p3)] := hl
  refine lv_aload_n (pc := 0) hx hb dX11_may_0 rfl (lv_at hl 0 rfl) ?_
  refine lv_iload_n (pc := 1) hx hb dX11_may_1 rfl (lv_at hl 1 rfl) ?_
  refine c_Vq (pc := 2) (As := [.int p0]) (rest := []) (wr := []) X hW 0 ciX11 rfl (C_X11_valleyAt l g h0 a0 a1 a2 a3 a4 a5 a6 a7 a8 a9 a10 p0) vX11_101 [0] [] rfl rfl rfl rfl rfl rfl hl.1 rfl (Nat.le_of_ble_eq_true rfl) ⟨Nat.le_of_ble_eq_true rfl, Nat.le_of_ble_eq_true rfl⟩ ⟨Nat.le_of_ble_eq_true rfl, Nat.le_of_ble_eq_true rfl⟩ dX11_may_2 (fun r1 u9 H locs hq hW => ?_)
  obtain ⟨rfl, rfl⟩ := hq
  have hW : WD g A s _ _ [(h0, .inr (11, [.ref a0, .ref a1, .ref a2, .ref a3, .ref a4, .ref a5, .ref a6, .ref a7, .ref a8, .ref a9, .ref a10, .int 0, .int 0, .int 0]))] := hW
  refine lv_astoreN (lv' := [(5, .null), (0, .ref h0), (1, .int p0), (2, .int p1), (3, .int p2), (4, .int p3)]) (pc := 5) hx hb dX11_may_5 hl (by decide) rfl (fun ls hl => ?_)
  refine lv_aloadN (pc := 7) hx hb dX11_may_7 (lv_at hl 0 rfl) ?_
  refine lv_ifnullN (tgt := 30) (pc := 9) hx hb dX11_may_9 rfl ?_
  refine lv_iconst (v := (-1)) (pc := 30) hx hb dX11_may_30 (by decide) ?_
  exact e_i X hQ hr hW (u := [(h0, .inr (11, [.ref a0, .ref a1, .ref a2, .ref a3, .ref a4, .ref a5, .ref a6, .ref a7, .ref a8, .ref a9, .ref a10, .int 0, .int 0, .int 0]))]) [0] rfl rfl (⟨rfl, rfl⟩) ⟨Nat.le_of_ble_eq_true rfl, Nat.le_of_ble_eq_true rfl⟩ dX11_may_31

set_option maxHeartbeats 4000000 in
set_option maxRecDepth 100000 in
theorem C_X11_plan (l : Launch) (g : GG) (h0 a0 a1 a2 a3 a4 a5 a6 a7 a8 a9 a10 : Nat) (p0 : Int32) : MetI l g yX11_plan cX11_plan 3 (some .int) 1 0 0 [.ref h0, .int p0] [(h0, .inr (11, [.ref a0, .ref a1, .ref a2, .ref a3, .ref a4, .ref a5, .ref a6, .ref a7, .ref a8, .ref a9, .ref a10, .int 0, .int 0, .int 0]))] (fun r u => r = (-1) ∧ u = [(h0, .inr (11, [.ref a0, .ref a1, .ref a2, .ref a3, .ref a4, .ref a5, .ref a6, .ref a7, .ref a8, .ref a9, .ref a10, .int 0, .int 0, .int 0]))]) := by
  refine MetI.of (own := RX11) rfl (by decide) (Nat.le_of_ble_eq_true rfl) ?_
  intro p e s m below meth c A ls args Q hQ X hr hin hW hl
  have hx := X.1
  have hb := X.2.1
  have hl : lv_has ls 3 [(0, .ref h0), (1, .int p0)] := hl
  refine lv_aload_n (pc := 0) hx hb dX11_plan_0 rfl (lv_at hl 0 rfl) ?_
  refine lv_iload_n (pc := 1) hx hb dX11_plan_1 rfl (lv_at hl 1 rfl) ?_
  refine c_Vq (pc := 2) (As := [.int p0]) (rest := []) (wr := []) X hW 0 ciX11 rfl (C_X11_valleyAt l g h0 a0 a1 a2 a3 a4 a5 a6 a7 a8 a9 a10 p0) vX11_101 [0] [] rfl rfl rfl rfl rfl rfl hl.1 rfl (Nat.le_of_ble_eq_true rfl) ⟨Nat.le_of_ble_eq_true rfl, Nat.le_of_ble_eq_true rfl⟩ ⟨Nat.le_of_ble_eq_true rfl, Nat.le_of_ble_eq_true rfl⟩ dX11_plan_2 (fun r1 u9 H locs hq hW => ?_)
  obtain ⟨rfl, rfl⟩ := hq
  have hW : WD g A s _ _ [(h0, .inr (11, [.ref a0, .ref a1, .ref a2, .ref a3, .ref a4, .ref a5, .ref a6, .ref a7, .ref a8, .ref a9, .ref a10, .int 0, .int 0, .int 0]))] := hW
  refine lv_astore_nN (lv' := [(2, .null), (0, .ref h0), (1, .int p0)]) (pc := 5) hx hb dX11_plan_5 rfl hl (by decide) rfl (fun ls hl => ?_)
  refine lv_aload_nN (pc := 6) hx hb dX11_plan_6 rfl (lv_at hl 0 rfl) ?_
  refine lv_ifnullN (tgt := 19) (pc := 7) hx hb dX11_plan_7 rfl ?_
  refine lv_iconst (v := (-1)) (pc := 19) hx hb dX11_plan_19 (by decide) ?_
  exact e_i X hQ hr hW (u := [(h0, .inr (11, [.ref a0, .ref a1, .ref a2, .ref a3, .ref a4, .ref a5, .ref a6, .ref a7, .ref a8, .ref a9, .ref a10, .int 0, .int 0, .int 0]))]) [0] rfl rfl (⟨rfl, rfl⟩) ⟨Nat.le_of_ble_eq_true rfl, Nat.le_of_ble_eq_true rfl⟩ dX11_plan_20

set_option maxHeartbeats 4000000 in
set_option maxRecDepth 100000 in
theorem C_X11_call (l : Launch) (g : GG) (h0 a0 a1 a2 a3 a4 a5 a6 a7 a8 a9 a10 : Nat) (p0 : Int32) (p1 : Int32) (p2 : Int32) (p3 : Int32) (p4 : Int32) : MetI l g yX11_call cX11_call 8 (some .int) 1 0 0 [.ref h0, .int p0, .int p1, .int p2, .int p3, .int p4] [(h0, .inr (11, [.ref a0, .ref a1, .ref a2, .ref a3, .ref a4, .ref a5, .ref a6, .ref a7, .ref a8, .ref a9, .ref a10, .int 0, .int 0, .int 0]))] (fun r u => r = (-1) ∧ u = [(h0, .inr (11, [.ref a0, .ref a1, .ref a2, .ref a3, .ref a4, .ref a5, .ref a6, .ref a7, .ref a8, .ref a9, .ref a10, .int 0, .int 0, .int 0]))]) := by
  refine MetI.of (own := RX11) rfl (by decide) (Nat.le_of_ble_eq_true rfl) ?_
  intro p e s m below meth c A ls args Q hQ X hr hin hW hl
  have hx := X.1
  have hb := X.2.1
  have hl : lv_has ls 8 [(0, .ref h0), (1, .int p0), (2, .int p1), (3, .int p2), (4, .int p3), (5, .int p4)] := hl
  refine lv_aload_n (pc := 0) hx hb dX11_call_0 rfl (lv_at hl 0 rfl) ?_
  refine lv_iload_n (pc := 1) hx hb dX11_call_1 rfl (lv_at hl 1 rfl) ?_
  refine c_Vq (pc := 2) (As := [.int p0]) (rest := []) (wr := []) X hW 0 ciX11 rfl (C_X11_planAt l g h0 a0 a1 a2 a3 a4 a5 a6 a7 a8 a9 a10 p0) vX11_157 [0] [] rfl rfl rfl rfl rfl rfl hl.1 rfl (Nat.le_of_ble_eq_true rfl) ⟨Nat.le_of_ble_eq_true rfl, Nat.le_of_ble_eq_true rfl⟩ ⟨Nat.le_of_ble_eq_true rfl, Nat.le_of_ble_eq_true rfl⟩ dX11_call_2 (fun r1 u9 H locs hq hW => ?_)
  obtain ⟨rfl, rfl⟩ := hq
  have hW : WD g A s _ _ [(h0, .inr (11, [.ref a0, .ref a1, .ref a2, .ref a3, .ref a4, .ref a5, .ref a6, .ref a7, .ref a8, .ref a9, .ref a10, .int 0, .int 0, .int 0]))] := hW
  refine lv_astoreN (lv' := [(6, .null), (0, .ref h0), (1, .int p0), (2, .int p1), (3, .int p2), (4, .int p3), (5, .int p4)]) (pc := 5) hx hb dX11_call_5 hl (by decide) rfl (fun ls hl => ?_)
  refine lv_aloadN (pc := 7) hx hb dX11_call_7 (lv_at hl 0 rfl) ?_
  refine lv_ifnullN (tgt := 36) (pc := 9) hx hb dX11_call_9 rfl ?_
  refine lv_iconst (v := (-1)) (pc := 36) hx hb dX11_call_36 (by decide) ?_
  exact e_i X hQ hr hW (u := [(h0, .inr (11, [.ref a0, .ref a1, .ref a2, .ref a3, .ref a4, .ref a5, .ref a6, .ref a7, .ref a8, .ref a9, .ref a10, .int 0, .int 0, .int 0]))]) [0] rfl rfl (⟨rfl, rfl⟩) ⟨Nat.le_of_ble_eq_true rfl, Nat.le_of_ble_eq_true rfl⟩ dX11_call_37

set_option maxHeartbeats 4000000 in
set_option maxRecDepth 100000 in
theorem C_X11_lawful (l : Launch) (g : GG) (h0 a0 a1 a2 a3 a4 a5 a6 a7 a8 a9 a10 : Nat) (p0 : Int32) (p1 : Int32) : MetI l g yX11_lawful cX11_lawful 4 (some .int) 1 0 0 [.ref h0, .int p0, .int p1] [(h0, .inr (11, [.ref a0, .ref a1, .ref a2, .ref a3, .ref a4, .ref a5, .ref a6, .ref a7, .ref a8, .ref a9, .ref a10, .int 0, .int 0, .int 0]))] (fun r u => r = (-1) ∧ u = [(h0, .inr (11, [.ref a0, .ref a1, .ref a2, .ref a3, .ref a4, .ref a5, .ref a6, .ref a7, .ref a8, .ref a9, .ref a10, .int 0, .int 0, .int 0]))]) := by
  refine MetI.of (own := RX11) rfl (by decide) (Nat.le_of_ble_eq_true rfl) ?_
  intro p e s m below meth c A ls args Q hQ X hr hin hW hl
  have hx := X.1
  have hb := X.2.1
  have hl : lv_has ls 4 [(0, .ref h0), (1, .int p0), (2, .int p1)] := hl
  refine lv_aload_n (pc := 0) hx hb dX11_lawful_0 rfl (lv_at hl 0 rfl) ?_
  refine lv_iload_n (pc := 1) hx hb dX11_lawful_1 rfl (lv_at hl 1 rfl) ?_
  refine c_Vq (pc := 2) (As := [.int p0]) (rest := []) (wr := []) X hW 0 ciX11 rfl (C_X11_planAt l g h0 a0 a1 a2 a3 a4 a5 a6 a7 a8 a9 a10 p0) vX11_157 [0] [] rfl rfl rfl rfl rfl rfl hl.1 rfl (Nat.le_of_ble_eq_true rfl) ⟨Nat.le_of_ble_eq_true rfl, Nat.le_of_ble_eq_true rfl⟩ ⟨Nat.le_of_ble_eq_true rfl, Nat.le_of_ble_eq_true rfl⟩ dX11_lawful_2 (fun r1 u9 H locs hq hW => ?_)
  obtain ⟨rfl, rfl⟩ := hq
  have hW : WD g A s _ _ [(h0, .inr (11, [.ref a0, .ref a1, .ref a2, .ref a3, .ref a4, .ref a5, .ref a6, .ref a7, .ref a8, .ref a9, .ref a10, .int 0, .int 0, .int 0]))] := hW
  refine lv_astore_nN (lv' := [(3, .null), (0, .ref h0), (1, .int p0), (2, .int p1)]) (pc := 5) hx hb dX11_lawful_5 rfl hl (by decide) rfl (fun ls hl => ?_)
  refine lv_aload_nN (pc := 6) hx hb dX11_lawful_6 rfl (lv_at hl 0 rfl) ?_
  refine lv_ifnullN (tgt := 22) (pc := 7) hx hb dX11_lawful_7 rfl ?_
  refine lv_iconst (v := (-1)) (pc := 22) hx hb dX11_lawful_22 (by decide) ?_
  exact e_i X hQ hr hW (u := [(h0, .inr (11, [.ref a0, .ref a1, .ref a2, .ref a3, .ref a4, .ref a5, .ref a6, .ref a7, .ref a8, .ref a9, .ref a10, .int 0, .int 0, .int 0]))]) [0] rfl rfl (⟨rfl, rfl⟩) ⟨Nat.le_of_ble_eq_true rfl, Nat.le_of_ble_eq_true rfl⟩ dX11_lawful_23

set_option maxHeartbeats 4000000 in
set_option maxRecDepth 100000 in
theorem C_X11_unlawful (l : Launch) (g : GG) (h0 a0 a1 a2 a3 a4 a5 a6 a7 a8 a9 a10 : Nat) (p0 : Int32) : MetI l g yX11_unlawful cX11_unlawful 4 (some .int) 1 0 0 [.ref h0, .int p0] [(h0, .inr (11, [.ref a0, .ref a1, .ref a2, .ref a3, .ref a4, .ref a5, .ref a6, .ref a7, .ref a8, .ref a9, .ref a10, .int 0, .int 0, .int 0]))] (fun r u => r = (-1) ∧ u = [(h0, .inr (11, [.ref a0, .ref a1, .ref a2, .ref a3, .ref a4, .ref a5, .ref a6, .ref a7, .ref a8, .ref a9, .ref a10, .int 0, .int 0, .int 0]))]) := by
  refine MetI.of (own := RX11) rfl (by decide) (Nat.le_of_ble_eq_true rfl) ?_
  intro p e s m below meth c A ls args Q hQ X hr hin hW hl
  have hx := X.1
  have hb := X.2.1
  have hl : lv_has ls 4 [(0, .ref h0), (1, .int p0)] := hl
  refine lv_aload_n (pc := 0) hx hb dX11_unlawful_0 rfl (lv_at hl 0 rfl) ?_
  refine lv_iload_n (pc := 1) hx hb dX11_unlawful_1 rfl (lv_at hl 1 rfl) ?_
  refine c_Vq (pc := 2) (As := [.int p0]) (rest := []) (wr := []) X hW 0 ciX11 rfl (C_X11_planAt l g h0 a0 a1 a2 a3 a4 a5 a6 a7 a8 a9 a10 p0) vX11_157 [0] [] rfl rfl rfl rfl rfl rfl hl.1 rfl (Nat.le_of_ble_eq_true rfl) ⟨Nat.le_of_ble_eq_true rfl, Nat.le_of_ble_eq_true rfl⟩ ⟨Nat.le_of_ble_eq_true rfl, Nat.le_of_ble_eq_true rfl⟩ dX11_unlawful_2 (fun r1 u9 H locs hq hW => ?_)
  obtain ⟨rfl, rfl⟩ := hq
  have hW : WD g A s _ _ [(h0, .inr (11, [.ref a0, .ref a1, .ref a2, .ref a3, .ref a4, .ref a5, .ref a6, .ref a7, .ref a8, .ref a9, .ref a10, .int 0, .int 0, .int 0]))] := hW
  refine lv_astore_nN (lv' := [(2, .null), (0, .ref h0), (1, .int p0)]) (pc := 5) hx hb dX11_unlawful_5 rfl hl (by decide) rfl (fun ls hl => ?_)
  refine lv_aload_nN (pc := 6) hx hb dX11_unlawful_6 rfl (lv_at hl 0 rfl) ?_
  refine lv_ifnonnullN (pc := 7) hx hb dX11_unlawful_7 ?_
  refine lv_iconst (v := (-1)) (pc := 10) hx hb dX11_unlawful_10 (by decide) ?_
  exact e_i X hQ hr hW (u := [(h0, .inr (11, [.ref a0, .ref a1, .ref a2, .ref a3, .ref a4, .ref a5, .ref a6, .ref a7, .ref a8, .ref a9, .ref a10, .int 0, .int 0, .int 0]))]) [0] rfl rfl (⟨rfl, rfl⟩) ⟨Nat.le_of_ble_eq_true rfl, Nat.le_of_ble_eq_true rfl⟩ dX11_unlawful_11

set_option maxHeartbeats 4000000 in
set_option maxRecDepth 100000 in
theorem C_X11_known (l : Launch) (g : GG) (h0 a0 a1 a2 a3 a4 a5 a6 a7 a8 a9 a10 : Nat) (p0 : Int32) (p1 : Int32) (p2 : Int32) : MetI l g yX11_known cX11_known 5 (some .int) 1 0 0 [.ref h0, .int p0, .int p1, .int p2] [(h0, .inr (11, [.ref a0, .ref a1, .ref a2, .ref a3, .ref a4, .ref a5, .ref a6, .ref a7, .ref a8, .ref a9, .ref a10, .int 0, .int 0, .int 0]))] (fun r u => r = (-1) ∧ u = [(h0, .inr (11, [.ref a0, .ref a1, .ref a2, .ref a3, .ref a4, .ref a5, .ref a6, .ref a7, .ref a8, .ref a9, .ref a10, .int 0, .int 0, .int 0]))]) := by
  refine MetI.of (own := RX11) rfl (by decide) (Nat.le_of_ble_eq_true rfl) ?_
  intro p e s m below meth c A ls args Q hQ X hr hin hW hl
  have hx := X.1
  have hb := X.2.1
  have hl : lv_has ls 5 [(0, .ref h0), (1, .int p0), (2, .int p1), (3, .int p2)] := hl
  refine lv_aload_n (pc := 0) hx hb dX11_known_0 rfl (lv_at hl 0 rfl) ?_
  refine lv_iload_n (pc := 1) hx hb dX11_known_1 rfl (lv_at hl 1 rfl) ?_
  refine c_Vq (pc := 2) (As := [.int p0]) (rest := []) (wr := []) X hW 0 ciX11 rfl (C_X11_planAt l g h0 a0 a1 a2 a3 a4 a5 a6 a7 a8 a9 a10 p0) vX11_157 [0] [] rfl rfl rfl rfl rfl rfl hl.1 rfl (Nat.le_of_ble_eq_true rfl) ⟨Nat.le_of_ble_eq_true rfl, Nat.le_of_ble_eq_true rfl⟩ ⟨Nat.le_of_ble_eq_true rfl, Nat.le_of_ble_eq_true rfl⟩ dX11_known_2 (fun r1 u9 H locs hq hW => ?_)
  obtain ⟨rfl, rfl⟩ := hq
  have hW : WD g A s _ _ [(h0, .inr (11, [.ref a0, .ref a1, .ref a2, .ref a3, .ref a4, .ref a5, .ref a6, .ref a7, .ref a8, .ref a9, .ref a10, .int 0, .int 0, .int 0]))] := hW
  refine lv_astoreN (lv' := [(4, .null), (0, .ref h0), (1, .int p0), (2, .int p1), (3, .int p2)]) (pc := 5) hx hb dX11_known_5 hl (by decide) rfl (fun ls hl => ?_)
  refine lv_aloadN (pc := 7) hx hb dX11_known_7 (lv_at hl 0 rfl) ?_
  refine lv_ifnullN (tgt := 31) (pc := 9) hx hb dX11_known_9 rfl ?_
  refine lv_iconst (v := (-1)) (pc := 31) hx hb dX11_known_31 (by decide) ?_
  exact e_i X hQ hr hW (u := [(h0, .inr (11, [.ref a0, .ref a1, .ref a2, .ref a3, .ref a4, .ref a5, .ref a6, .ref a7, .ref a8, .ref a9, .ref a10, .int 0, .int 0, .int 0]))]) [0] rfl rfl (⟨rfl, rfl⟩) ⟨Nat.le_of_ble_eq_true rfl, Nat.le_of_ble_eq_true rfl⟩ dX11_known_32

set_option maxHeartbeats 4000000 in
set_option maxRecDepth 100000 in
theorem C_X11_together (l : Launch) (g : GG) (h0 a0 a1 a2 a3 a4 a5 a6 a7 a8 a9 a10 : Nat) (p0 : Int32) (p1 : Int32) (p2 : Int32) : MetI l g yX11_together cX11_together 7 (some .int) 1 0 0 [.ref h0, .int p0, .int p1, .int p2] [(h0, .inr (11, [.ref a0, .ref a1, .ref a2, .ref a3, .ref a4, .ref a5, .ref a6, .ref a7, .ref a8, .ref a9, .ref a10, .int 0, .int 0, .int 0]))] (fun r u => r = (-1) ∧ u = [(h0, .inr (11, [.ref a0, .ref a1, .ref a2, .ref a3, .ref a4, .ref a5, .ref a6, .ref a7, .ref a8, .ref a9, .ref a10, .int 0, .int 0, .int 0]))]) := by
  refine MetI.of (own := RX11) rfl (by decide) (Nat.le_of_ble_eq_true rfl) ?_
  intro p e s m below meth c A ls args Q hQ X hr hin hW hl
  have hx := X.1
  have hb := X.2.1
  have hl : lv_has ls 7 [(0, .ref h0), (1, .int p0), (2, .int p1), (3, .int p2)] := hl
  refine lv_aload_n (pc := 0) hx hb dX11_together_0 rfl (lv_at hl 0 rfl) ?_
  refine lv_iload_n (pc := 1) hx hb dX11_together_1 rfl (lv_at hl 1 rfl) ?_
  refine c_Vq (pc := 2) (As := [.int p0]) (rest := []) (wr := []) X hW 0 ciX11 rfl (C_X11_planAt l g h0 a0 a1 a2 a3 a4 a5 a6 a7 a8 a9 a10 p0) vX11_157 [0] [] rfl rfl rfl rfl rfl rfl hl.1 rfl (Nat.le_of_ble_eq_true rfl) ⟨Nat.le_of_ble_eq_true rfl, Nat.le_of_ble_eq_true rfl⟩ ⟨Nat.le_of_ble_eq_true rfl, Nat.le_of_ble_eq_true rfl⟩ dX11_together_2 (fun r1 u9 H locs hq hW => ?_)
  obtain ⟨rfl, rfl⟩ := hq
  have hW : WD g A s _ _ [(h0, .inr (11, [.ref a0, .ref a1, .ref a2, .ref a3, .ref a4, .ref a5, .ref a6, .ref a7, .ref a8, .ref a9, .ref a10, .int 0, .int 0, .int 0]))] := hW
  refine lv_astoreN (lv' := [(4, .null), (0, .ref h0), (1, .int p0), (2, .int p1), (3, .int p2)]) (pc := 5) hx hb dX11_together_5 hl (by decide) rfl (fun ls hl => ?_)
  refine lv_aloadN (pc := 7) hx hb dX11_together_7 (lv_at hl 0 rfl) ?_
  refine lv_ifnullN (tgt := 36) (pc := 9) hx hb dX11_together_9 rfl ?_
  refine lv_iconst (v := (-1)) (pc := 36) hx hb dX11_together_36 (by decide) ?_
  exact e_i X hQ hr hW (u := [(h0, .inr (11, [.ref a0, .ref a1, .ref a2, .ref a3, .ref a4, .ref a5, .ref a6, .ref a7, .ref a8, .ref a9, .ref a10, .int 0, .int 0, .int 0]))]) [0] rfl rfl (⟨rfl, rfl⟩) ⟨Nat.le_of_ble_eq_true rfl, Nat.le_of_ble_eq_true rfl⟩ dX11_together_37

set_option maxHeartbeats 4000000 in
set_option maxRecDepth 100000 in
theorem C_X11_when (l : Launch) (g : GG) (h0 a0 a1 a2 a3 a4 a5 a6 a7 a8 a9 a10 : Nat) (p0 : Int32) (p1 : Int32) : MetI l g yX11_when cX11_when 5 (some .int) 1 0 0 [.ref h0, .int p0, .int p1] [(h0, .inr (11, [.ref a0, .ref a1, .ref a2, .ref a3, .ref a4, .ref a5, .ref a6, .ref a7, .ref a8, .ref a9, .ref a10, .int 0, .int 0, .int 0]))] (fun r u => r = (-1) ∧ u = [(h0, .inr (11, [.ref a0, .ref a1, .ref a2, .ref a3, .ref a4, .ref a5, .ref a6, .ref a7, .ref a8, .ref a9, .ref a10, .int 0, .int 0, .int 0]))]) := by
  refine MetI.of (own := RX11) rfl (by decide) (Nat.le_of_ble_eq_true rfl) ?_
  intro p e s m below meth c A ls args Q hQ X hr hin hW hl
  have hx := X.1
  have hb := X.2.1
  have hl : lv_has ls 5 [(0, .ref h0), (1, .int p0), (2, .int p1)] := hl
  refine lv_aload_n (pc := 0) hx hb dX11_when_0 rfl (lv_at hl 0 rfl) ?_
  refine lv_iload_n (pc := 1) hx hb dX11_when_1 rfl (lv_at hl 1 rfl) ?_
  refine c_Vq (pc := 2) (As := [.int p0]) (rest := []) (wr := []) X hW 0 ciX11 rfl (C_X11_planAt l g h0 a0 a1 a2 a3 a4 a5 a6 a7 a8 a9 a10 p0) vX11_157 [0] [] rfl rfl rfl rfl rfl rfl hl.1 rfl (Nat.le_of_ble_eq_true rfl) ⟨Nat.le_of_ble_eq_true rfl, Nat.le_of_ble_eq_true rfl⟩ ⟨Nat.le_of_ble_eq_true rfl, Nat.le_of_ble_eq_true rfl⟩ dX11_when_2 (fun r1 u9 H locs hq hW => ?_)
  obtain ⟨rfl, rfl⟩ := hq
  have hW : WD g A s _ _ [(h0, .inr (11, [.ref a0, .ref a1, .ref a2, .ref a3, .ref a4, .ref a5, .ref a6, .ref a7, .ref a8, .ref a9, .ref a10, .int 0, .int 0, .int 0]))] := hW
  refine lv_astore_nN (lv' := [(3, .null), (0, .ref h0), (1, .int p0), (2, .int p1)]) (pc := 5) hx hb dX11_when_5 rfl hl (by decide) rfl (fun ls hl => ?_)
  refine lv_aload_nN (pc := 6) hx hb dX11_when_6 rfl (lv_at hl 0 rfl) ?_
  refine lv_ifnullN (tgt := 19) (pc := 7) hx hb dX11_when_7 rfl ?_
  refine lv_iconst (v := (-1)) (pc := 19) hx hb dX11_when_19 (by decide) ?_
  exact e_i X hQ hr hW (u := [(h0, .inr (11, [.ref a0, .ref a1, .ref a2, .ref a3, .ref a4, .ref a5, .ref a6, .ref a7, .ref a8, .ref a9, .ref a10, .int 0, .int 0, .int 0]))]) [0] rfl rfl (⟨rfl, rfl⟩) ⟨Nat.le_of_ble_eq_true rfl, Nat.le_of_ble_eq_true rfl⟩ dX11_when_20

set_option maxHeartbeats 4000000 in
set_option maxRecDepth 100000 in
theorem C_X11_least (l : Launch) (g : GG) (h0 a0 a1 a2 a3 a4 a5 a6 a7 a8 a9 a10 : Nat) (p0 : Int32) (p1 : Int32) (p2 : Int32) : MetI l g yX11_least cX11_least 5 (some .int) 1 0 0 [.ref h0, .int p0, .int p1, .int p2] [(h0, .inr (11, [.ref a0, .ref a1, .ref a2, .ref a3, .ref a4, .ref a5, .ref a6, .ref a7, .ref a8, .ref a9, .ref a10, .int 0, .int 0, .int 0]))] (fun r u => r = (-1) ∧ u = [(h0, .inr (11, [.ref a0, .ref a1, .ref a2, .ref a3, .ref a4, .ref a5, .ref a6, .ref a7, .ref a8, .ref a9, .ref a10, .int 0, .int 0, .int 0]))]) := by
  refine MetI.of (own := RX11) rfl (by decide) (Nat.le_of_ble_eq_true rfl) ?_
  intro p e s m below meth c A ls args Q hQ X hr hin hW hl
  have hx := X.1
  have hb := X.2.1
  have hl : lv_has ls 5 [(0, .ref h0), (1, .int p0), (2, .int p1), (3, .int p2)] := hl
  refine lv_aload_n (pc := 0) hx hb dX11_least_0 rfl (lv_at hl 0 rfl) ?_
  refine lv_iload_n (pc := 1) hx hb dX11_least_1 rfl (lv_at hl 1 rfl) ?_
  refine c_Vq (pc := 2) (As := [.int p0]) (rest := []) (wr := []) X hW 0 ciX11 rfl (C_X11_valleyAt l g h0 a0 a1 a2 a3 a4 a5 a6 a7 a8 a9 a10 p0) vX11_101 [0] [] rfl rfl rfl rfl rfl rfl hl.1 rfl (Nat.le_of_ble_eq_true rfl) ⟨Nat.le_of_ble_eq_true rfl, Nat.le_of_ble_eq_true rfl⟩ ⟨Nat.le_of_ble_eq_true rfl, Nat.le_of_ble_eq_true rfl⟩ dX11_least_2 (fun r1 u9 H locs hq hW => ?_)
  obtain ⟨rfl, rfl⟩ := hq
  have hW : WD g A s _ _ [(h0, .inr (11, [.ref a0, .ref a1, .ref a2, .ref a3, .ref a4, .ref a5, .ref a6, .ref a7, .ref a8, .ref a9, .ref a10, .int 0, .int 0, .int 0]))] := hW
  refine lv_astoreN (lv' := [(4, .null), (0, .ref h0), (1, .int p0), (2, .int p1), (3, .int p2)]) (pc := 5) hx hb dX11_least_5 hl (by decide) rfl (fun ls hl => ?_)
  refine lv_aloadN (pc := 7) hx hb dX11_least_7 (lv_at hl 0 rfl) ?_
  refine lv_ifnullN (tgt := 26) (pc := 9) hx hb dX11_least_9 rfl ?_
  refine lv_iconst (v := (-1)) (pc := 26) hx hb dX11_least_26 (by decide) ?_
  exact e_i X hQ hr hW (u := [(h0, .inr (11, [.ref a0, .ref a1, .ref a2, .ref a3, .ref a4, .ref a5, .ref a6, .ref a7, .ref a8, .ref a9, .ref a10, .int 0, .int 0, .int 0]))]) [0] rfl rfl (⟨rfl, rfl⟩) ⟨Nat.le_of_ble_eq_true rfl, Nat.le_of_ble_eq_true rfl⟩ dX11_least_27

set_option maxHeartbeats 4000000 in
set_option maxRecDepth 100000 in
theorem C_X11_found (l : Launch) (g : GG) (h0 a0 a1 a2 a3 a4 a5 a6 a7 a8 a9 a10 : Nat) (p0 : Int32) (p1 : Int32) (p2 : Int32) (p3 : Int32) (p4 : Int32) : MetI l g yX11_found cX11_found 8 (some .int) 1 0 0 [.ref h0, .int p0, .int p1, .int p2, .int p3, .int p4] [(h0, .inr (11, [.ref a0, .ref a1, .ref a2, .ref a3, .ref a4, .ref a5, .ref a6, .ref a7, .ref a8, .ref a9, .ref a10, .int 0, .int 0, .int 0]))] (fun r u => r = (-1) ∧ u = [(h0, .inr (11, [.ref a0, .ref a1, .ref a2, .ref a3, .ref a4, .ref a5, .ref a6, .ref a7, .ref a8, .ref a9, .ref a10, .int 0, .int 0, .int 0]))]) := by
  refine MetI.of (own := RX11) rfl (by decide) (Nat.le_of_ble_eq_true rfl) ?_
  intro p e s m below meth c A ls args Q hQ X hr hin hW hl
  have hx := X.1
  have hb := X.2.1
  have hl : lv_has ls 8 [(0, .ref h0), (1, .int p0), (2, .int p1), (3, .int p2), (4, .int p3), (5, .int p4)] := hl
  refine lv_aload_n (pc := 0) hx hb dX11_found_0 rfl (lv_at hl 0 rfl) ?_
  refine lv_iload_n (pc := 1) hx hb dX11_found_1 rfl (lv_at hl 1 rfl) ?_
  refine c_Vq (pc := 2) (As := [.int p0]) (rest := []) (wr := []) X hW 0 ciX11 rfl (C_X11_valleyAt l g h0 a0 a1 a2 a3 a4 a5 a6 a7 a8 a9 a10 p0) vX11_101 [0] [] rfl rfl rfl rfl rfl rfl hl.1 rfl (Nat.le_of_ble_eq_true rfl) ⟨Nat.le_of_ble_eq_true rfl, Nat.le_of_ble_eq_true rfl⟩ ⟨Nat.le_of_ble_eq_true rfl, Nat.le_of_ble_eq_true rfl⟩ dX11_found_2 (fun r1 u9 H locs hq hW => ?_)
  obtain ⟨rfl, rfl⟩ := hq
  have hW : WD g A s _ _ [(h0, .inr (11, [.ref a0, .ref a1, .ref a2, .ref a3, .ref a4, .ref a5, .ref a6, .ref a7, .ref a8, .ref a9, .ref a10, .int 0, .int 0, .int 0]))] := hW
  refine lv_astoreN (lv' := [(6, .null), (0, .ref h0), (1, .int p0), (2, .int p1), (3, .int p2), (4, .int p3), (5, .int p4)]) (pc := 5) hx hb dX11_found_5 hl (by decide) rfl (fun ls hl => ?_)
  refine lv_aloadN (pc := 7) hx hb dX11_found_7 (lv_at hl 0 rfl) ?_
  refine lv_ifnullN (tgt := 41) (pc := 9) hx hb dX11_found_9 rfl ?_
  refine lv_iconst (v := (-1)) (pc := 41) hx hb dX11_found_41 (by decide) ?_
  exact e_i X hQ hr hW (u := [(h0, .inr (11, [.ref a0, .ref a1, .ref a2, .ref a3, .ref a4, .ref a5, .ref a6, .ref a7, .ref a8, .ref a9, .ref a10, .int 0, .int 0, .int 0]))]) [0] rfl rfl (⟨rfl, rfl⟩) ⟨Nat.le_of_ble_eq_true rfl, Nat.le_of_ble_eq_true rfl⟩ dX11_found_42

set_option maxHeartbeats 4000000 in
set_option maxRecDepth 100000 in
theorem C_X11_reach (l : Launch) (g : GG) (h0 a0 a1 a2 a3 a4 a5 a6 a7 a8 a9 a10 : Nat) (p0 : Int32) (p1 : Int32) (p2 : Int32) (p3 : Int32) : MetI l g yX11_reach cX11_reach 6 (some .int) 1 0 0 [.ref h0, .int p0, .int p1, .int p2, .int p3] [(h0, .inr (11, [.ref a0, .ref a1, .ref a2, .ref a3, .ref a4, .ref a5, .ref a6, .ref a7, .ref a8, .ref a9, .ref a10, .int 0, .int 0, .int 0]))] (fun r u => r = (-1) ∧ u = [(h0, .inr (11, [.ref a0, .ref a1, .ref a2, .ref a3, .ref a4, .ref a5, .ref a6, .ref a7, .ref a8, .ref a9, .ref a10, .int 0, .int 0, .int 0]))]) := by
  refine MetI.of (own := RX11) rfl (by decide) (Nat.le_of_ble_eq_true rfl) ?_
  intro p e s m below meth c A ls args Q hQ X hr hin hW hl
  have hx := X.1
  have hb := X.2.1
  have hl : lv_has ls 6 [(0, .ref h0), (1, .int p0), (2, .int p1), (3, .int p2), (4, .int p3)] := hl
  refine lv_aload_n (pc := 0) hx hb dX11_reach_0 rfl (lv_at hl 0 rfl) ?_
  refine lv_iload_n (pc := 1) hx hb dX11_reach_1 rfl (lv_at hl 1 rfl) ?_
  refine c_Vq (pc := 2) (As := [.int p0]) (rest := []) (wr := []) X hW 0 ciX11 rfl (C_X11_valleyAt l g h0 a0 a1 a2 a3 a4 a5 a6 a7 a8 a9 a10 p0) vX11_101 [0] [] rfl rfl rfl rfl rfl rfl hl.1 rfl (Nat.le_of_ble_eq_true rfl) ⟨Nat.le_of_ble_eq_true rfl, Nat.le_of_ble_eq_true rfl⟩ ⟨Nat.le_of_ble_eq_true rfl, Nat.le_of_ble_eq_true rfl⟩ dX11_reach_2 (fun r1 u9 H locs hq hW => ?_)
  obtain ⟨rfl, rfl⟩ := hq
  have hW : WD g A s _ _ [(h0, .inr (11, [.ref a0, .ref a1, .ref a2, .ref a3, .ref a4, .ref a5, .ref a6, .ref a7, .ref a8, .ref a9, .ref a10, .int 0, .int 0, .int 0]))] := hW
  refine lv_astoreN (lv' := [(5, .null), (0, .ref h0), (1, .int p0), (2, .int p1), (3, .int p2), (4, .int p3)]) (pc := 5) hx hb dX11_reach_5 hl (by decide) rfl (fun ls hl => ?_)
  refine lv_aloadN (pc := 7) hx hb dX11_reach_7 (lv_at hl 0 rfl) ?_
  refine lv_ifnullN (tgt := 40) (pc := 9) hx hb dX11_reach_9 rfl ?_
  refine lv_iconst (v := (-1)) (pc := 40) hx hb dX11_reach_40 (by decide) ?_
  exact e_i X hQ hr hW (u := [(h0, .inr (11, [.ref a0, .ref a1, .ref a2, .ref a3, .ref a4, .ref a5, .ref a6, .ref a7, .ref a8, .ref a9, .ref a10, .int 0, .int 0, .int 0]))]) [0] rfl rfl (⟨rfl, rfl⟩) ⟨Nat.le_of_ble_eq_true rfl, Nat.le_of_ble_eq_true rfl⟩ dX11_reach_41

set_option maxHeartbeats 4000000 in
set_option maxRecDepth 100000 in
theorem C_X11_from (l : Launch) (g : GG) (h0 a0 a1 a2 a3 a4 a5 a6 a7 a8 a9 a10 : Nat) (p0 : Int32) (p1 : Int32) (p2 : Int32) : MetI l g yX11_from cX11_from 5 (some .int) 1 0 0 [.ref h0, .int p0, .int p1, .int p2] [(h0, .inr (11, [.ref a0, .ref a1, .ref a2, .ref a3, .ref a4, .ref a5, .ref a6, .ref a7, .ref a8, .ref a9, .ref a10, .int 0, .int 0, .int 0]))] (fun r u => r = (-1) ∧ u = [(h0, .inr (11, [.ref a0, .ref a1, .ref a2, .ref a3, .ref a4, .ref a5, .ref a6, .ref a7, .ref a8, .ref a9, .ref a10, .int 0, .int 0, .int 0]))]) := by
  refine MetI.of (own := RX11) rfl (by decide) (Nat.le_of_ble_eq_true rfl) ?_
  intro p e s m below meth c A ls args Q hQ X hr hin hW hl
  have hx := X.1
  have hb := X.2.1
  have hl : lv_has ls 5 [(0, .ref h0), (1, .int p0), (2, .int p1), (3, .int p2)] := hl
  refine lv_aload_n (pc := 0) hx hb dX11_from_0 rfl (lv_at hl 0 rfl) ?_
  refine lv_iload_n (pc := 1) hx hb dX11_from_1 rfl (lv_at hl 1 rfl) ?_
  refine c_Vq (pc := 2) (As := [.int p0]) (rest := []) (wr := []) X hW 0 ciX11 rfl (C_X11_planAt l g h0 a0 a1 a2 a3 a4 a5 a6 a7 a8 a9 a10 p0) vX11_157 [0] [] rfl rfl rfl rfl rfl rfl hl.1 rfl (Nat.le_of_ble_eq_true rfl) ⟨Nat.le_of_ble_eq_true rfl, Nat.le_of_ble_eq_true rfl⟩ ⟨Nat.le_of_ble_eq_true rfl, Nat.le_of_ble_eq_true rfl⟩ dX11_from_2 (fun r1 u9 H locs hq hW => ?_)
  obtain ⟨rfl, rfl⟩ := hq
  have hW : WD g A s _ _ [(h0, .inr (11, [.ref a0, .ref a1, .ref a2, .ref a3, .ref a4, .ref a5, .ref a6, .ref a7, .ref a8, .ref a9, .ref a10, .int 0, .int 0, .int 0]))] := hW
  refine lv_astoreN (lv' := [(4, .null), (0, .ref h0), (1, .int p0), (2, .int p1), (3, .int p2)]) (pc := 5) hx hb dX11_from_5 hl (by decide) rfl (fun ls hl => ?_)
  refine lv_aloadN (pc := 7) hx hb dX11_from_7 (lv_at hl 0 rfl) ?_
  refine lv_ifnullN (tgt := 32) (pc := 9) hx hb dX11_from_9 rfl ?_
  refine lv_iconst (v := (-1)) (pc := 32) hx hb dX11_from_32 (by decide) ?_
  exact e_i X hQ hr hW (u := [(h0, .inr (11, [.ref a0, .ref a1, .ref a2, .ref a3, .ref a4, .ref a5, .ref a6, .ref a7, .ref a8, .ref a9, .ref a10, .int 0, .int 0, .int 0]))]) [0] rfl rfl (⟨rfl, rfl⟩) ⟨Nat.le_of_ble_eq_true rfl, Nat.le_of_ble_eq_true rfl⟩ dX11_from_33

set_option maxHeartbeats 4000000 in
set_option maxRecDepth 100000 in
theorem C_X11_added (l : Launch) (g : GG) (h0 a0 a1 a2 a3 a4 a5 a6 a7 a8 a9 a10 : Nat) (p0 : Int32) (p1 : Int32) (p2 : Int32) : MetI l g yX11_added cX11_added 5 (some .int) 1 0 0 [.ref h0, .int p0, .int p1, .int p2] [(h0, .inr (11, [.ref a0, .ref a1, .ref a2, .ref a3, .ref a4, .ref a5, .ref a6, .ref a7, .ref a8, .ref a9, .ref a10, .int 0, .int 0, .int 0]))] (fun r u => r = (-1) ∧ u = [(h0, .inr (11, [.ref a0, .ref a1, .ref a2, .ref a3, .ref a4, .ref a5, .ref a6, .ref a7, .ref a8, .ref a9, .ref a10, .int 0, .int 0, .int 0]))]) := by
  refine MetI.of (own := RX11) rfl (by decide) (Nat.le_of_ble_eq_true rfl) ?_
  intro p e s m below meth c A ls args Q hQ X hr hin hW hl
  have hx := X.1
  have hb := X.2.1
  have hl : lv_has ls 5 [(0, .ref h0), (1, .int p0), (2, .int p1), (3, .int p2)] := hl
  refine lv_aload_n (pc := 0) hx hb dX11_added_0 rfl (lv_at hl 0 rfl) ?_
  refine lv_iload_n (pc := 1) hx hb dX11_added_1 rfl (lv_at hl 1 rfl) ?_
  refine c_Vq (pc := 2) (As := [.int p0]) (rest := []) (wr := []) X hW 0 ciX11 rfl (C_X11_valleyAt l g h0 a0 a1 a2 a3 a4 a5 a6 a7 a8 a9 a10 p0) vX11_101 [0] [] rfl rfl rfl rfl rfl rfl hl.1 rfl (Nat.le_of_ble_eq_true rfl) ⟨Nat.le_of_ble_eq_true rfl, Nat.le_of_ble_eq_true rfl⟩ ⟨Nat.le_of_ble_eq_true rfl, Nat.le_of_ble_eq_true rfl⟩ dX11_added_2 (fun r1 u9 H locs hq hW => ?_)
  obtain ⟨rfl, rfl⟩ := hq
  have hW : WD g A s _ _ [(h0, .inr (11, [.ref a0, .ref a1, .ref a2, .ref a3, .ref a4, .ref a5, .ref a6, .ref a7, .ref a8, .ref a9, .ref a10, .int 0, .int 0, .int 0]))] := hW
  refine lv_astoreN (lv' := [(4, .null), (0, .ref h0), (1, .int p0), (2, .int p1), (3, .int p2)]) (pc := 5) hx hb dX11_added_5 hl (by decide) rfl (fun ls hl => ?_)
  refine lv_aloadN (pc := 7) hx hb dX11_added_7 (lv_at hl 0 rfl) ?_
  refine lv_ifnullN (tgt := 41) (pc := 9) hx hb dX11_added_9 rfl ?_
  refine lv_iconst (v := (-1)) (pc := 41) hx hb dX11_added_41 (by decide) ?_
  exact e_i X hQ hr hW (u := [(h0, .inr (11, [.ref a0, .ref a1, .ref a2, .ref a3, .ref a4, .ref a5, .ref a6, .ref a7, .ref a8, .ref a9, .ref a10, .int 0, .int 0, .int 0]))]) [0] rfl rfl (⟨rfl, rfl⟩) ⟨Nat.le_of_ble_eq_true rfl, Nat.le_of_ble_eq_true rfl⟩ dX11_added_42

set_option maxHeartbeats 4000000 in
set_option maxRecDepth 100000 in
theorem C_X11_shut (l : Launch) (g : GG) (h0 a0 a1 a2 a3 a4 a5 a6 a7 a8 a9 a10 : Nat) (p0 : Int32) (p1 : Int32) (p2 : Int32) (p3 : Int32) : MetI l g yX11_shut cX11_shut 6 (some .int) 1 0 0 [.ref h0, .int p0, .int p1, .int p2, .int p3] [(h0, .inr (11, [.ref a0, .ref a1, .ref a2, .ref a3, .ref a4, .ref a5, .ref a6, .ref a7, .ref a8, .ref a9, .ref a10, .int 0, .int 0, .int 0]))] (fun r u => r = (-1) ∧ u = [(h0, .inr (11, [.ref a0, .ref a1, .ref a2, .ref a3, .ref a4, .ref a5, .ref a6, .ref a7, .ref a8, .ref a9, .ref a10, .int 0, .int 0, .int 0]))]) := by
  refine MetI.of (own := RX11) rfl (by decide) (Nat.le_of_ble_eq_true rfl) ?_
  intro p e s m below meth c A ls args Q hQ X hr hin hW hl
  have hx := X.1
  have hb := X.2.1
  have hl : lv_has ls 6 [(0, .ref h0), (1, .int p0), (2, .int p1), (3, .int p2), (4, .int p3)] := hl
  refine lv_aload_n (pc := 0) hx hb dX11_shut_0 rfl (lv_at hl 0 rfl) ?_
  refine lv_iload_n (pc := 1) hx hb dX11_shut_1 rfl (lv_at hl 1 rfl) ?_
  refine c_Vq (pc := 2) (As := [.int p0]) (rest := []) (wr := []) X hW 0 ciX11 rfl (C_X11_valleyAt l g h0 a0 a1 a2 a3 a4 a5 a6 a7 a8 a9 a10 p0) vX11_101 [0] [] rfl rfl rfl rfl rfl rfl hl.1 rfl (Nat.le_of_ble_eq_true rfl) ⟨Nat.le_of_ble_eq_true rfl, Nat.le_of_ble_eq_true rfl⟩ ⟨Nat.le_of_ble_eq_true rfl, Nat.le_of_ble_eq_true rfl⟩ dX11_shut_2 (fun r1 u9 H locs hq hW => ?_)
  obtain ⟨rfl, rfl⟩ := hq
  have hW : WD g A s _ _ [(h0, .inr (11, [.ref a0, .ref a1, .ref a2, .ref a3, .ref a4, .ref a5, .ref a6, .ref a7, .ref a8, .ref a9, .ref a10, .int 0, .int 0, .int 0]))] := hW
  refine lv_astoreN (lv' := [(5, .null), (0, .ref h0), (1, .int p0), (2, .int p1), (3, .int p2), (4, .int p3)]) (pc := 5) hx hb dX11_shut_5 hl (by decide) rfl (fun ls hl => ?_)
  refine lv_aloadN (pc := 7) hx hb dX11_shut_7 (lv_at hl 0 rfl) ?_
  refine lv_ifnullN (tgt := 36) (pc := 9) hx hb dX11_shut_9 rfl ?_
  refine lv_iconst (v := (-1)) (pc := 36) hx hb dX11_shut_36 (by decide) ?_
  exact e_i X hQ hr hW (u := [(h0, .inr (11, [.ref a0, .ref a1, .ref a2, .ref a3, .ref a4, .ref a5, .ref a6, .ref a7, .ref a8, .ref a9, .ref a10, .int 0, .int 0, .int 0]))]) [0] rfl rfl (⟨rfl, rfl⟩) ⟨Nat.le_of_ble_eq_true rfl, Nat.le_of_ble_eq_true rfl⟩ dX11_shut_37

set_option maxHeartbeats 4000000 in
set_option maxRecDepth 100000 in
theorem C_X11_fewest (l : Launch) (g : GG) (h0 a0 a1 a2 a3 a4 a5 a6 a7 a8 a9 a10 : Nat) (p0 : Int32) : MetI l g yX11_fewest cX11_fewest 3 (some .int) 1 0 0 [.ref h0, .int p0] [(h0, .inr (11, [.ref a0, .ref a1, .ref a2, .ref a3, .ref a4, .ref a5, .ref a6, .ref a7, .ref a8, .ref a9, .ref a10, .int 0, .int 0, .int 0]))] (fun r u => r = (-1) ∧ u = [(h0, .inr (11, [.ref a0, .ref a1, .ref a2, .ref a3, .ref a4, .ref a5, .ref a6, .ref a7, .ref a8, .ref a9, .ref a10, .int 0, .int 0, .int 0]))]) := by
  refine MetI.of (own := RX11) rfl (by decide) (Nat.le_of_ble_eq_true rfl) ?_
  intro p e s m below meth c A ls args Q hQ X hr hin hW hl
  have hx := X.1
  have hb := X.2.1
  have hl : lv_has ls 3 [(0, .ref h0), (1, .int p0)] := hl
  refine lv_aload_n (pc := 0) hx hb dX11_fewest_0 rfl (lv_at hl 0 rfl) ?_
  refine lv_iload_n (pc := 1) hx hb dX11_fewest_1 rfl (lv_at hl 1 rfl) ?_
  refine c_Vq (pc := 2) (As := [.int p0]) (rest := []) (wr := []) X hW 0 ciX11 rfl (C_X11_valleyAt l g h0 a0 a1 a2 a3 a4 a5 a6 a7 a8 a9 a10 p0) vX11_101 [0] [] rfl rfl rfl rfl rfl rfl hl.1 rfl (Nat.le_of_ble_eq_true rfl) ⟨Nat.le_of_ble_eq_true rfl, Nat.le_of_ble_eq_true rfl⟩ ⟨Nat.le_of_ble_eq_true rfl, Nat.le_of_ble_eq_true rfl⟩ dX11_fewest_2 (fun r1 u9 H locs hq hW => ?_)
  obtain ⟨rfl, rfl⟩ := hq
  have hW : WD g A s _ _ [(h0, .inr (11, [.ref a0, .ref a1, .ref a2, .ref a3, .ref a4, .ref a5, .ref a6, .ref a7, .ref a8, .ref a9, .ref a10, .int 0, .int 0, .int 0]))] := hW
  refine lv_astore_nN (lv' := [(2, .null), (0, .ref h0), (1, .int p0)]) (pc := 5) hx hb dX11_fewest_5 rfl hl (by decide) rfl (fun ls hl => ?_)
  refine lv_aload_nN (pc := 6) hx hb dX11_fewest_6 rfl (lv_at hl 0 rfl) ?_
  refine lv_ifnonnullN (pc := 7) hx hb dX11_fewest_7 ?_
  refine lv_iconst (v := (-1)) (pc := 10) hx hb dX11_fewest_10 (by decide) ?_
  refine lv_goto (tgt := 22) (pc := 11) hx hb dX11_fewest_11 rfl ?_
  exact e_i X hQ hr hW (u := [(h0, .inr (11, [.ref a0, .ref a1, .ref a2, .ref a3, .ref a4, .ref a5, .ref a6, .ref a7, .ref a8, .ref a9, .ref a10, .int 0, .int 0, .int 0]))]) [0] rfl rfl (⟨rfl, rfl⟩) ⟨Nat.le_of_ble_eq_true rfl, Nat.le_of_ble_eq_true rfl⟩ dX11_fewest_22

set_option maxHeartbeats 4000000 in
set_option maxRecDepth 100000 in
theorem C_X11_gossip (l : Launch) (g : GG) (h0 a0 a1 a2 a3 a4 a5 a6 a7 a8 a9 a10 : Nat) (p0 : Int32) (p1 : Int32) : MetI l g yX11_gossip cX11_gossip 4 (some .int) 1 0 0 [.ref h0, .int p0, .int p1] [(h0, .inr (11, [.ref a0, .ref a1, .ref a2, .ref a3, .ref a4, .ref a5, .ref a6, .ref a7, .ref a8, .ref a9, .ref a10, .int 0, .int 0, .int 0]))] (fun r u => r = (-1) ∧ u = [(h0, .inr (11, [.ref a0, .ref a1, .ref a2, .ref a3, .ref a4, .ref a5, .ref a6, .ref a7, .ref a8, .ref a9, .ref a10, .int 0, .int 0, .int 0]))]) := by
  refine MetI.of (own := RX11) rfl (by decide) (Nat.le_of_ble_eq_true rfl) ?_
  intro p e s m below meth c A ls args Q hQ X hr hin hW hl
  have hx := X.1
  have hb := X.2.1
  have hl : lv_has ls 4 [(0, .ref h0), (1, .int p0), (2, .int p1)] := hl
  refine lv_aload_n (pc := 0) hx hb dX11_gossip_0 rfl (lv_at hl 0 rfl) ?_
  refine lv_iload_n (pc := 1) hx hb dX11_gossip_1 rfl (lv_at hl 1 rfl) ?_
  refine c_Vq (pc := 2) (As := [.int p0]) (rest := []) (wr := []) X hW 0 ciX11 rfl (C_X11_valleyAt l g h0 a0 a1 a2 a3 a4 a5 a6 a7 a8 a9 a10 p0) vX11_101 [0] [] rfl rfl rfl rfl rfl rfl hl.1 rfl (Nat.le_of_ble_eq_true rfl) ⟨Nat.le_of_ble_eq_true rfl, Nat.le_of_ble_eq_true rfl⟩ ⟨Nat.le_of_ble_eq_true rfl, Nat.le_of_ble_eq_true rfl⟩ dX11_gossip_2 (fun r1 u9 H locs hq hW => ?_)
  obtain ⟨rfl, rfl⟩ := hq
  have hW : WD g A s _ _ [(h0, .inr (11, [.ref a0, .ref a1, .ref a2, .ref a3, .ref a4, .ref a5, .ref a6, .ref a7, .ref a8, .ref a9, .ref a10, .int 0, .int 0, .int 0]))] := hW
  refine lv_astore_nN (lv' := [(3, .null), (0, .ref h0), (1, .int p0), (2, .int p1)]) (pc := 5) hx hb dX11_gossip_5 rfl hl (by decide) rfl (fun ls hl => ?_)
  refine lv_aload_nN (pc := 6) hx hb dX11_gossip_6 rfl (lv_at hl 0 rfl) ?_
  refine lv_ifnullN (tgt := 26) (pc := 7) hx hb dX11_gossip_7 rfl ?_
  refine lv_iconst (v := (-1)) (pc := 26) hx hb dX11_gossip_26 (by decide) ?_
  exact e_i X hQ hr hW (u := [(h0, .inr (11, [.ref a0, .ref a1, .ref a2, .ref a3, .ref a4, .ref a5, .ref a6, .ref a7, .ref a8, .ref a9, .ref a10, .int 0, .int 0, .int 0]))]) [0] rfl rfl (⟨rfl, rfl⟩) ⟨Nat.le_of_ble_eq_true rfl, Nat.le_of_ble_eq_true rfl⟩ dX11_gossip_27

set_option maxHeartbeats 4000000 in
set_option maxRecDepth 100000 in
theorem C_X11_ends (l : Launch) (g : GG) (h0 a0 a1 a2 a3 a4 a5 a6 a7 a8 a9 a10 : Nat) (p0 : Int32) (p1 : Int32) : MetI l g yX11_ends cX11_ends 4 (some .int) 1 0 0 [.ref h0, .int p0, .int p1] [(h0, .inr (11, [.ref a0, .ref a1, .ref a2, .ref a3, .ref a4, .ref a5, .ref a6, .ref a7, .ref a8, .ref a9, .ref a10, .int 0, .int 0, .int 0]))] (fun r u => r = (-1) ∧ u = [(h0, .inr (11, [.ref a0, .ref a1, .ref a2, .ref a3, .ref a4, .ref a5, .ref a6, .ref a7, .ref a8, .ref a9, .ref a10, .int 0, .int 0, .int 0]))]) := by
  refine MetI.of (own := RX11) rfl (by decide) (Nat.le_of_ble_eq_true rfl) ?_
  intro p e s m below meth c A ls args Q hQ X hr hin hW hl
  have hx := X.1
  have hb := X.2.1
  have hl : lv_has ls 4 [(0, .ref h0), (1, .int p0), (2, .int p1)] := hl
  refine lv_aload_n (pc := 0) hx hb dX11_ends_0 rfl (lv_at hl 0 rfl) ?_
  refine lv_iload_n (pc := 1) hx hb dX11_ends_1 rfl (lv_at hl 1 rfl) ?_
  refine c_Vq (pc := 2) (As := [.int p0]) (rest := []) (wr := []) X hW 0 ciX11 rfl (C_X11_valleyAt l g h0 a0 a1 a2 a3 a4 a5 a6 a7 a8 a9 a10 p0) vX11_101 [0] [] rfl rfl rfl rfl rfl rfl hl.1 rfl (Nat.le_of_ble_eq_true rfl) ⟨Nat.le_of_ble_eq_true rfl, Nat.le_of_ble_eq_true rfl⟩ ⟨Nat.le_of_ble_eq_true rfl, Nat.le_of_ble_eq_true rfl⟩ dX11_ends_2 (fun r1 u9 H locs hq hW => ?_)
  obtain ⟨rfl, rfl⟩ := hq
  have hW : WD g A s _ _ [(h0, .inr (11, [.ref a0, .ref a1, .ref a2, .ref a3, .ref a4, .ref a5, .ref a6, .ref a7, .ref a8, .ref a9, .ref a10, .int 0, .int 0, .int 0]))] := hW
  refine lv_astore_nN (lv' := [(3, .null), (0, .ref h0), (1, .int p0), (2, .int p1)]) (pc := 5) hx hb dX11_ends_5 rfl hl (by decide) rfl (fun ls hl => ?_)
  refine lv_aload_nN (pc := 6) hx hb dX11_ends_6 rfl (lv_at hl 0 rfl) ?_
  refine lv_ifnullN (tgt := 26) (pc := 7) hx hb dX11_ends_7 rfl ?_
  refine lv_iconst (v := (-1)) (pc := 26) hx hb dX11_ends_26 (by decide) ?_
  exact e_i X hQ hr hW (u := [(h0, .inr (11, [.ref a0, .ref a1, .ref a2, .ref a3, .ref a4, .ref a5, .ref a6, .ref a7, .ref a8, .ref a9, .ref a10, .int 0, .int 0, .int 0]))]) [0] rfl rfl (⟨rfl, rfl⟩) ⟨Nat.le_of_ble_eq_true rfl, Nat.le_of_ble_eq_true rfl⟩ dX11_ends_27

set_option maxHeartbeats 4000000 in
set_option maxRecDepth 100000 in
theorem C_X11_trade (l : Launch) (g : GG) (h0 a0 a1 a2 a3 a4 a5 a6 a7 a8 a9 a10 : Nat) (p0 : Int32) (p1 : Int32) (p2 : Int32) : MetI l g yX11_trade cX11_trade 6 (some .int) 1 0 0 [.ref h0, .int p0, .int p1, .int p2] [(h0, .inr (11, [.ref a0, .ref a1, .ref a2, .ref a3, .ref a4, .ref a5, .ref a6, .ref a7, .ref a8, .ref a9, .ref a10, .int 0, .int 0, .int 0]))] (fun r u => r = (-1) ∧ u = [(h0, .inr (11, [.ref a0, .ref a1, .ref a2, .ref a3, .ref a4, .ref a5, .ref a6, .ref a7, .ref a8, .ref a9, .ref a10, .int 0, .int 0, .int 0]))]) := by
  refine MetI.of (own := RX11) rfl (by decide) (Nat.le_of_ble_eq_true rfl) ?_
  intro p e s m below meth c A ls args Q hQ X hr hin hW hl
  have hx := X.1
  have hb := X.2.1
  have hl : lv_has ls 6 [(0, .ref h0), (1, .int p0), (2, .int p1), (3, .int p2)] := hl
  refine lv_aload_n (pc := 0) hx hb dX11_trade_0 rfl (lv_at hl 0 rfl) ?_
  refine lv_iload_n (pc := 1) hx hb dX11_trade_1 rfl (lv_at hl 1 rfl) ?_
  refine c_Vq (pc := 2) (As := [.int p0]) (rest := []) (wr := []) X hW 0 ciX11 rfl (C_X11_valleyAt l g h0 a0 a1 a2 a3 a4 a5 a6 a7 a8 a9 a10 p0) vX11_101 [0] [] rfl rfl rfl rfl rfl rfl hl.1 rfl (Nat.le_of_ble_eq_true rfl) ⟨Nat.le_of_ble_eq_true rfl, Nat.le_of_ble_eq_true rfl⟩ ⟨Nat.le_of_ble_eq_true rfl, Nat.le_of_ble_eq_true rfl⟩ dX11_trade_2 (fun r1 u9 H locs hq hW => ?_)
  obtain ⟨rfl, rfl⟩ := hq
  have hW : WD g A s _ _ [(h0, .inr (11, [.ref a0, .ref a1, .ref a2, .ref a3, .ref a4, .ref a5, .ref a6, .ref a7, .ref a8, .ref a9, .ref a10, .int 0, .int 0, .int 0]))] := hW
  refine lv_astoreN (lv' := [(4, .null), (0, .ref h0), (1, .int p0), (2, .int p1), (3, .int p2)]) (pc := 5) hx hb dX11_trade_5 hl (by decide) rfl (fun ls hl => ?_)
  refine lv_aloadN (pc := 7) hx hb dX11_trade_7 (lv_at hl 0 rfl) ?_
  refine lv_ifnullN (tgt := 41) (pc := 9) hx hb dX11_trade_9 rfl ?_
  refine lv_iconst (v := (-1)) (pc := 41) hx hb dX11_trade_41 (by decide) ?_
  exact e_i X hQ hr hW (u := [(h0, .inr (11, [.ref a0, .ref a1, .ref a2, .ref a3, .ref a4, .ref a5, .ref a6, .ref a7, .ref a8, .ref a9, .ref a10, .int 0, .int 0, .int 0]))]) [0] rfl rfl (⟨rfl, rfl⟩) ⟨Nat.le_of_ble_eq_true rfl, Nat.le_of_ble_eq_true rfl⟩ dX11_trade_42

set_option maxHeartbeats 4000000 in
set_option maxRecDepth 100000 in
theorem C_X11_card (l : Launch) (g : GG) (h0 a0 a1 a2 a3 a4 a5 a6 a7 a8 a9 a10 : Nat) (p0 : Int32) (p1 : Int32) (p2 : Int32) : MetI l g yX11_card cX11_card 5 (some .int) 1 0 0 [.ref h0, .int p0, .int p1, .int p2] [(h0, .inr (11, [.ref a0, .ref a1, .ref a2, .ref a3, .ref a4, .ref a5, .ref a6, .ref a7, .ref a8, .ref a9, .ref a10, .int 0, .int 0, .int 0]))] (fun r u => r = (-1) ∧ u = [(h0, .inr (11, [.ref a0, .ref a1, .ref a2, .ref a3, .ref a4, .ref a5, .ref a6, .ref a7, .ref a8, .ref a9, .ref a10, .int 0, .int 0, .int 0]))]) := by
  refine MetI.of (own := RX11) rfl (by decide) (Nat.le_of_ble_eq_true rfl) ?_
  intro p e s m below meth c A ls args Q hQ X hr hin hW hl
  have hx := X.1
  have hb := X.2.1
  have hl : lv_has ls 5 [(0, .ref h0), (1, .int p0), (2, .int p1), (3, .int p2)] := hl
  refine lv_aload_n (pc := 0) hx hb dX11_card_0 rfl (lv_at hl 0 rfl) ?_
  refine lv_iload_n (pc := 1) hx hb dX11_card_1 rfl (lv_at hl 1 rfl) ?_
  refine c_Vq (pc := 2) (As := [.int p0]) (rest := []) (wr := []) X hW 0 ciX11 rfl (C_X11_valleyAt l g h0 a0 a1 a2 a3 a4 a5 a6 a7 a8 a9 a10 p0) vX11_101 [0] [] rfl rfl rfl rfl rfl rfl hl.1 rfl (Nat.le_of_ble_eq_true rfl) ⟨Nat.le_of_ble_eq_true rfl, Nat.le_of_ble_eq_true rfl⟩ ⟨Nat.le_of_ble_eq_true rfl, Nat.le_of_ble_eq_true rfl⟩ dX11_card_2 (fun r1 u9 H locs hq hW => ?_)
  obtain ⟨rfl, rfl⟩ := hq
  have hW : WD g A s _ _ [(h0, .inr (11, [.ref a0, .ref a1, .ref a2, .ref a3, .ref a4, .ref a5, .ref a6, .ref a7, .ref a8, .ref a9, .ref a10, .int 0, .int 0, .int 0]))] := hW
  refine lv_astoreN (lv' := [(4, .null), (0, .ref h0), (1, .int p0), (2, .int p1), (3, .int p2)]) (pc := 5) hx hb dX11_card_5 hl (by decide) rfl (fun ls hl => ?_)
  refine lv_aloadN (pc := 7) hx hb dX11_card_7 (lv_at hl 0 rfl) ?_
  refine lv_ifnullN (tgt := 22) (pc := 9) hx hb dX11_card_9 rfl ?_
  refine lv_iconst (v := (-1)) (pc := 22) hx hb dX11_card_22 (by decide) ?_
  exact e_i X hQ hr hW (u := [(h0, .inr (11, [.ref a0, .ref a1, .ref a2, .ref a3, .ref a4, .ref a5, .ref a6, .ref a7, .ref a8, .ref a9, .ref a10, .int 0, .int 0, .int 0]))]) [0] rfl rfl (⟨rfl, rfl⟩) ⟨Nat.le_of_ble_eq_true rfl, Nat.le_of_ble_eq_true rfl⟩ dX11_card_23

set_option maxHeartbeats 4000000 in
set_option maxRecDepth 100000 in
theorem C_X11_blank (l : Launch) (g : GG) (h0 a0 a1 a2 a3 a4 a5 a6 a7 a8 a9 a10 : Nat) (p0 : Int32) : MetI l g yX11_blank cX11_blank 3 (some .boolean) 1 0 0 [.ref h0, .int p0] [(h0, .inr (11, [.ref a0, .ref a1, .ref a2, .ref a3, .ref a4, .ref a5, .ref a6, .ref a7, .ref a8, .ref a9, .ref a10, .int 0, .int 0, .int 0]))] (fun r u => r = 0 ∧ u = [(h0, .inr (11, [.ref a0, .ref a1, .ref a2, .ref a3, .ref a4, .ref a5, .ref a6, .ref a7, .ref a8, .ref a9, .ref a10, .int 0, .int 0, .int 0]))]) := by
  refine MetI.of (own := RX11) rfl (by decide) (Nat.le_of_ble_eq_true rfl) ?_
  intro p e s m below meth c A ls args Q hQ X hr hin hW hl
  have hx := X.1
  have hb := X.2.1
  have hl : lv_has ls 3 [(0, .ref h0), (1, .int p0)] := hl
  refine lv_aload_n (pc := 0) hx hb dX11_blank_0 rfl (lv_at hl 0 rfl) ?_
  refine lv_iload_n (pc := 1) hx hb dX11_blank_1 rfl (lv_at hl 1 rfl) ?_
  refine c_Vq (pc := 2) (As := [.int p0]) (rest := []) (wr := []) X hW 0 ciX11 rfl (C_X11_valleyAt l g h0 a0 a1 a2 a3 a4 a5 a6 a7 a8 a9 a10 p0) vX11_101 [0] [] rfl rfl rfl rfl rfl rfl hl.1 rfl (Nat.le_of_ble_eq_true rfl) ⟨Nat.le_of_ble_eq_true rfl, Nat.le_of_ble_eq_true rfl⟩ ⟨Nat.le_of_ble_eq_true rfl, Nat.le_of_ble_eq_true rfl⟩ dX11_blank_2 (fun r1 u9 H locs hq hW => ?_)
  obtain ⟨rfl, rfl⟩ := hq
  have hW : WD g A s _ _ [(h0, .inr (11, [.ref a0, .ref a1, .ref a2, .ref a3, .ref a4, .ref a5, .ref a6, .ref a7, .ref a8, .ref a9, .ref a10, .int 0, .int 0, .int 0]))] := hW
  refine lv_astore_nN (lv' := [(2, .null), (0, .ref h0), (1, .int p0)]) (pc := 5) hx hb dX11_blank_5 rfl hl (by decide) rfl (fun ls hl => ?_)
  refine lv_aload_nN (pc := 6) hx hb dX11_blank_6 rfl (lv_at hl 0 rfl) ?_
  refine lv_ifnonnullN (pc := 7) hx hb dX11_blank_7 ?_
  refine lv_iconst (v := 0) (pc := 10) hx hb dX11_blank_10 (by decide) ?_
  exact e_z X hQ hr hW (u := [(h0, .inr (11, [.ref a0, .ref a1, .ref a2, .ref a3, .ref a4, .ref a5, .ref a6, .ref a7, .ref a8, .ref a9, .ref a10, .int 0, .int 0, .int 0]))]) rfl [0] rfl rfl (⟨rfl, rfl⟩) ⟨Nat.le_of_ble_eq_true rfl, Nat.le_of_ble_eq_true rfl⟩ dX11_blank_11

set_option maxHeartbeats 4000000 in
set_option maxRecDepth 100000 in
theorem C_X11_kept (l : Launch) (g : GG) (h0 a0 a1 a2 a3 a4 a5 a6 a7 a8 a9 a10 : Nat) (p0 : Int32) (p1 : Int32) : MetI l g yX11_kept cX11_kept 4 (some .int) 1 0 0 [.ref h0, .int p0, .int p1] [(h0, .inr (11, [.ref a0, .ref a1, .ref a2, .ref a3, .ref a4, .ref a5, .ref a6, .ref a7, .ref a8, .ref a9, .ref a10, .int 0, .int 0, .int 0]))] (fun r u => r = (-1) ∧ u = [(h0, .inr (11, [.ref a0, .ref a1, .ref a2, .ref a3, .ref a4, .ref a5, .ref a6, .ref a7, .ref a8, .ref a9, .ref a10, .int 0, .int 0, .int 0]))]) := by
  refine MetI.of (own := RX11) rfl (by decide) (Nat.le_of_ble_eq_true rfl) ?_
  intro p e s m below meth c A ls args Q hQ X hr hin hW hl
  have hx := X.1
  have hb := X.2.1
  have hl : lv_has ls 4 [(0, .ref h0), (1, .int p0), (2, .int p1)] := hl
  refine lv_aload_n (pc := 0) hx hb dX11_kept_0 rfl (lv_at hl 0 rfl) ?_
  refine lv_iload_n (pc := 1) hx hb dX11_kept_1 rfl (lv_at hl 1 rfl) ?_
  refine c_Vq (pc := 2) (As := [.int p0]) (rest := []) (wr := []) X hW 0 ciX11 rfl (C_X11_valleyAt l g h0 a0 a1 a2 a3 a4 a5 a6 a7 a8 a9 a10 p0) vX11_101 [0] [] rfl rfl rfl rfl rfl rfl hl.1 rfl (Nat.le_of_ble_eq_true rfl) ⟨Nat.le_of_ble_eq_true rfl, Nat.le_of_ble_eq_true rfl⟩ ⟨Nat.le_of_ble_eq_true rfl, Nat.le_of_ble_eq_true rfl⟩ dX11_kept_2 (fun r1 u9 H locs hq hW => ?_)
  obtain ⟨rfl, rfl⟩ := hq
  have hW : WD g A s _ _ [(h0, .inr (11, [.ref a0, .ref a1, .ref a2, .ref a3, .ref a4, .ref a5, .ref a6, .ref a7, .ref a8, .ref a9, .ref a10, .int 0, .int 0, .int 0]))] := hW
  refine lv_astore_nN (lv' := [(3, .null), (0, .ref h0), (1, .int p0), (2, .int p1)]) (pc := 5) hx hb dX11_kept_5 rfl hl (by decide) rfl (fun ls hl => ?_)
  refine lv_aload_nN (pc := 6) hx hb dX11_kept_6 rfl (lv_at hl 0 rfl) ?_
  refine lv_ifnullN (tgt := 18) (pc := 7) hx hb dX11_kept_7 rfl ?_
  refine lv_iconst (v := (-1)) (pc := 18) hx hb dX11_kept_18 (by decide) ?_
  exact e_i X hQ hr hW (u := [(h0, .inr (11, [.ref a0, .ref a1, .ref a2, .ref a3, .ref a4, .ref a5, .ref a6, .ref a7, .ref a8, .ref a9, .ref a10, .int 0, .int 0, .int 0]))]) [0] rfl rfl (⟨rfl, rfl⟩) ⟨Nat.le_of_ble_eq_true rfl, Nat.le_of_ble_eq_true rfl⟩ dX11_kept_19

set_option maxHeartbeats 4000000 in
set_option maxRecDepth 100000 in
theorem C_X11_tree (l : Launch) (g : GG) (h0 a0 a1 a2 a3 a4 a5 a6 a7 a8 a9 a10 : Nat) (p0 : Int32) (p1 : Int32) (p2 : Int32) (p3 : Int32) : MetI l g yX11_tree cX11_tree 6 (some .int) 1 0 0 [.ref h0, .int p0, .int p1, .int p2, .int p3] [(h0, .inr (11, [.ref a0, .ref a1, .ref a2, .ref a3, .ref a4, .ref a5, .ref a6, .ref a7, .ref a8, .ref a9, .ref a10, .int 0, .int 0, .int 0]))] (fun r u => r = (-1) ∧ u = [(h0, .inr (11, [.ref a0, .ref a1, .ref a2, .ref a3, .ref a4, .ref a5, .ref a6, .ref a7, .ref a8, .ref a9, .ref a10, .int 0, .int 0, .int 0]))]) := by
  refine MetI.of (own := RX11) rfl (by decide) (Nat.le_of_ble_eq_true rfl) ?_
  intro p e s m below meth c A ls args Q hQ X hr hin hW hl
  have hx := X.1
  have hb := X.2.1
  have hl : lv_has ls 6 [(0, .ref h0), (1, .int p0), (2, .int p1), (3, .int p2), (4, .int p3)] := hl
  refine lv_aload_n (pc := 0) hx hb dX11_tree_0 rfl (lv_at hl 0 rfl) ?_
  refine lv_iload_n (pc := 1) hx hb dX11_tree_1 rfl (lv_at hl 1 rfl) ?_
  refine c_Vq (pc := 2) (As := [.int p0]) (rest := []) (wr := []) X hW 0 ciX11 rfl (C_X11_valleyAt l g h0 a0 a1 a2 a3 a4 a5 a6 a7 a8 a9 a10 p0) vX11_101 [0] [] rfl rfl rfl rfl rfl rfl hl.1 rfl (Nat.le_of_ble_eq_true rfl) ⟨Nat.le_of_ble_eq_true rfl, Nat.le_of_ble_eq_true rfl⟩ ⟨Nat.le_of_ble_eq_true rfl, Nat.le_of_ble_eq_true rfl⟩ dX11_tree_2 (fun r1 u9 H locs hq hW => ?_)
  obtain ⟨rfl, rfl⟩ := hq
  have hW : WD g A s _ _ [(h0, .inr (11, [.ref a0, .ref a1, .ref a2, .ref a3, .ref a4, .ref a5, .ref a6, .ref a7, .ref a8, .ref a9, .ref a10, .int 0, .int 0, .int 0]))] := hW
  refine lv_astoreN (lv' := [(5, .null), (0, .ref h0), (1, .int p0), (2, .int p1), (3, .int p2), (4, .int p3)]) (pc := 5) hx hb dX11_tree_5 hl (by decide) rfl (fun ls hl => ?_)
  refine lv_aloadN (pc := 7) hx hb dX11_tree_7 (lv_at hl 0 rfl) ?_
  refine lv_ifnullN (tgt := 49) (pc := 9) hx hb dX11_tree_9 rfl ?_
  refine lv_iconst (v := (-1)) (pc := 49) hx hb dX11_tree_49 (by decide) ?_
  exact e_i X hQ hr hW (u := [(h0, .inr (11, [.ref a0, .ref a1, .ref a2, .ref a3, .ref a4, .ref a5, .ref a6, .ref a7, .ref a8, .ref a9, .ref a10, .int 0, .int 0, .int 0]))]) [0] rfl rfl (⟨rfl, rfl⟩) ⟨Nat.le_of_ble_eq_true rfl, Nat.le_of_ble_eq_true rfl⟩ dX11_tree_50

set_option maxHeartbeats 4000000 in
set_option maxRecDepth 100000 in
theorem C_X11_breaks (l : Launch) (g : GG) (h0 a0 a1 a2 a3 a4 a5 a6 a7 a8 a9 a10 : Nat) (p0 : Int32) (p1 : Int32) : MetI l g yX11_breaks cX11_breaks 5 (some .int) 1 0 0 [.ref h0, .int p0, .int p1] [(h0, .inr (11, [.ref a0, .ref a1, .ref a2, .ref a3, .ref a4, .ref a5, .ref a6, .ref a7, .ref a8, .ref a9, .ref a10, .int 0, .int 0, .int 0]))] (fun r u => r = (-1) ∧ u = [(h0, .inr (11, [.ref a0, .ref a1, .ref a2, .ref a3, .ref a4, .ref a5, .ref a6, .ref a7, .ref a8, .ref a9, .ref a10, .int 0, .int 0, .int 0]))]) := by
  refine MetI.of (own := RX11) rfl (by decide) (Nat.le_of_ble_eq_true rfl) ?_
  intro p e s m below meth c A ls args Q hQ X hr hin hW hl
  have hx := X.1
  have hb := X.2.1
  have hl : lv_has ls 5 [(0, .ref h0), (1, .int p0), (2, .int p1)] := hl
  refine lv_aload_n (pc := 0) hx hb dX11_breaks_0 rfl (lv_at hl 0 rfl) ?_
  refine lv_iload_n (pc := 1) hx hb dX11_breaks_1 rfl (lv_at hl 1 rfl) ?_
  refine c_Vq (pc := 2) (As := [.int p0]) (rest := []) (wr := []) X hW 0 ciX11 rfl (C_X11_planAt l g h0 a0 a1 a2 a3 a4 a5 a6 a7 a8 a9 a10 p0) vX11_157 [0] [] rfl rfl rfl rfl rfl rfl hl.1 rfl (Nat.le_of_ble_eq_true rfl) ⟨Nat.le_of_ble_eq_true rfl, Nat.le_of_ble_eq_true rfl⟩ ⟨Nat.le_of_ble_eq_true rfl, Nat.le_of_ble_eq_true rfl⟩ dX11_breaks_2 (fun r1 u9 H locs hq hW => ?_)
  obtain ⟨rfl, rfl⟩ := hq
  have hW : WD g A s _ _ [(h0, .inr (11, [.ref a0, .ref a1, .ref a2, .ref a3, .ref a4, .ref a5, .ref a6, .ref a7, .ref a8, .ref a9, .ref a10, .int 0, .int 0, .int 0]))] := hW
  refine lv_astore_nN (lv' := [(3, .null), (0, .ref h0), (1, .int p0), (2, .int p1)]) (pc := 5) hx hb dX11_breaks_5 rfl hl (by decide) rfl (fun ls hl => ?_)
  refine lv_aload_nN (pc := 6) hx hb dX11_breaks_6 rfl (lv_at hl 0 rfl) ?_
  refine lv_ifnullN (tgt := 15) (pc := 7) hx hb dX11_breaks_7 rfl ?_
  refine lv_iconst (v := (-1)) (pc := 15) hx hb dX11_breaks_15 (by decide) ?_
  exact e_i X hQ hr hW (u := [(h0, .inr (11, [.ref a0, .ref a1, .ref a2, .ref a3, .ref a4, .ref a5, .ref a6, .ref a7, .ref a8, .ref a9, .ref a10, .int 0, .int 0, .int 0]))]) [0] rfl rfl (⟨rfl, rfl⟩) ⟨Nat.le_of_ble_eq_true rfl, Nat.le_of_ble_eq_true rfl⟩ dX11_breaks_16

set_option maxHeartbeats 4000000 in
set_option maxRecDepth 100000 in
theorem C_X11_breaker (l : Launch) (g : GG) (h0 a0 a1 a2 a3 a4 a5 a6 a7 a8 a9 a10 : Nat) (p0 : Int32) : MetI l g yX11_breaker cX11_breaker 3 (some .int) 1 0 0 [.ref h0, .int p0] [(h0, .inr (11, [.ref a0, .ref a1, .ref a2, .ref a3, .ref a4, .ref a5, .ref a6, .ref a7, .ref a8, .ref a9, .ref a10, .int 0, .int 0, .int 0]))] (fun r u => r = (-1) ∧ u = [(h0, .inr (11, [.ref a0, .ref a1, .ref a2, .ref a3, .ref a4, .ref a5, .ref a6, .ref a7, .ref a8, .ref a9, .ref a10, .int 0, .int 0, .int 0]))]) := by
  refine MetI.of (own := RX11) rfl (by decide) (Nat.le_of_ble_eq_true rfl) ?_
  intro p e s m below meth c A ls args Q hQ X hr hin hW hl
  have hx := X.1
  have hb := X.2.1
  have hl : lv_has ls 3 [(0, .ref h0), (1, .int p0)] := hl
  refine lv_aload_n (pc := 0) hx hb dX11_breaker_0 rfl (lv_at hl 0 rfl) ?_
  refine lv_iload_n (pc := 1) hx hb dX11_breaker_1 rfl (lv_at hl 1 rfl) ?_
  refine c_Vq (pc := 2) (As := [.int p0]) (rest := []) (wr := []) X hW 0 ciX11 rfl (C_X11_planAt l g h0 a0 a1 a2 a3 a4 a5 a6 a7 a8 a9 a10 p0) vX11_157 [0] [] rfl rfl rfl rfl rfl rfl hl.1 rfl (Nat.le_of_ble_eq_true rfl) ⟨Nat.le_of_ble_eq_true rfl, Nat.le_of_ble_eq_true rfl⟩ ⟨Nat.le_of_ble_eq_true rfl, Nat.le_of_ble_eq_true rfl⟩ dX11_breaker_2 (fun r1 u9 H locs hq hW => ?_)
  obtain ⟨rfl, rfl⟩ := hq
  have hW : WD g A s _ _ [(h0, .inr (11, [.ref a0, .ref a1, .ref a2, .ref a3, .ref a4, .ref a5, .ref a6, .ref a7, .ref a8, .ref a9, .ref a10, .int 0, .int 0, .int 0]))] := hW
  refine lv_astore_nN (lv' := [(2, .null), (0, .ref h0), (1, .int p0)]) (pc := 5) hx hb dX11_breaker_5 rfl hl (by decide) rfl (fun ls hl => ?_)
  refine lv_aload_nN (pc := 6) hx hb dX11_breaker_6 rfl (lv_at hl 0 rfl) ?_
  refine lv_ifnonnullN (pc := 7) hx hb dX11_breaker_7 ?_
  refine lv_iconst (v := (-1)) (pc := 10) hx hb dX11_breaker_10 (by decide) ?_
  refine lv_goto (tgt := 22) (pc := 11) hx hb dX11_breaker_11 rfl ?_
  exact e_i X hQ hr hW (u := [(h0, .inr (11, [.ref a0, .ref a1, .ref a2, .ref a3, .ref a4, .ref a5, .ref a6, .ref a7, .ref a8, .ref a9, .ref a10, .int 0, .int 0, .int 0]))]) [0] rfl rfl (⟨rfl, rfl⟩) ⟨Nat.le_of_ble_eq_true rfl, Nat.le_of_ble_eq_true rfl⟩ dX11_breaker_22

set_option maxHeartbeats 4000000 in
set_option maxRecDepth 100000 in
theorem C_X11_tale (l : Launch) (g : GG) (h0 a0 a1 a2 a3 a4 a5 a6 a7 a8 a9 a10 : Nat) (p0 : Int32) (p1 : Int32) (p2 : Int32) (p3 : Int32) : MetI l g yX11_tale cX11_tale 6 (some .boolean) 1 0 0 [.ref h0, .int p0, .int p1, .int p2, .int p3] [(h0, .inr (11, [.ref a0, .ref a1, .ref a2, .ref a3, .ref a4, .ref a5, .ref a6, .ref a7, .ref a8, .ref a9, .ref a10, .int 0, .int 0, .int 0]))] (fun r u => r = 0 ∧ u = [(h0, .inr (11, [.ref a0, .ref a1, .ref a2, .ref a3, .ref a4, .ref a5, .ref a6, .ref a7, .ref a8, .ref a9, .ref a10, .int 0, .int 0, .int 0]))]) := by
  refine MetI.of (own := RX11) rfl (by decide) (Nat.le_of_ble_eq_true rfl) ?_
  intro p e s m below meth c A ls args Q hQ X hr hin hW hl
  have hx := X.1
  have hb := X.2.1
  have hl : lv_has ls 6 [(0, .ref h0), (1, .int p0), (2, .int p1), (3, .int p2), (4, .int p3)] := hl
  refine lv_aload_n (pc := 0) hx hb dX11_tale_0 rfl (lv_at hl 0 rfl) ?_
  refine lv_iload_n (pc := 1) hx hb dX11_tale_1 rfl (lv_at hl 1 rfl) ?_
  refine c_Vq (pc := 2) (As := [.int p0]) (rest := []) (wr := []) X hW 0 ciX11 rfl (C_X11_valleyAt l g h0 a0 a1 a2 a3 a4 a5 a6 a7 a8 a9 a10 p0) vX11_101 [0] [] rfl rfl rfl rfl rfl rfl hl.1 rfl (Nat.le_of_ble_eq_true rfl) ⟨Nat.le_of_ble_eq_true rfl, Nat.le_of_ble_eq_true rfl⟩ ⟨Nat.le_of_ble_eq_true rfl, Nat.le_of_ble_eq_true rfl⟩ dX11_tale_2 (fun r1 u9 H locs hq hW => ?_)
  obtain ⟨rfl, rfl⟩ := hq
  have hW : WD g A s _ _ [(h0, .inr (11, [.ref a0, .ref a1, .ref a2, .ref a3, .ref a4, .ref a5, .ref a6, .ref a7, .ref a8, .ref a9, .ref a10, .int 0, .int 0, .int 0]))] := hW
  refine lv_astoreN (lv' := [(5, .null), (0, .ref h0), (1, .int p0), (2, .int p1), (3, .int p2), (4, .int p3)]) (pc := 5) hx hb dX11_tale_5 hl (by decide) rfl (fun ls hl => ?_)
  refine lv_aloadN (pc := 7) hx hb dX11_tale_7 (lv_at hl 0 rfl) ?_
  refine lv_ifnullN (tgt := 42) (pc := 9) hx hb dX11_tale_9 rfl ?_
  refine lv_iconst (v := 0) (pc := 42) hx hb dX11_tale_42 (by decide) ?_
  exact e_z X hQ hr hW (u := [(h0, .inr (11, [.ref a0, .ref a1, .ref a2, .ref a3, .ref a4, .ref a5, .ref a6, .ref a7, .ref a8, .ref a9, .ref a10, .int 0, .int 0, .int 0]))]) rfl [0] rfl rfl (⟨rfl, rfl⟩) ⟨Nat.le_of_ble_eq_true rfl, Nat.le_of_ble_eq_true rfl⟩ dX11_tale_43

set_option maxHeartbeats 4000000 in
set_option maxRecDepth 100000 in
theorem C_X11_who (l : Launch) (g : GG) (h0 a0 a1 a2 a3 a4 a5 a6 a7 a8 a9 a10 : Nat) (p0 : Int32) (p1 : Int32) : MetI l g yX11_who cX11_who 6 (some .int) 1 0 0 [.ref h0, .int p0, .int p1] [(h0, .inr (11, [.ref a0, .ref a1, .ref a2, .ref a3, .ref a4, .ref a5, .ref a6, .ref a7, .ref a8, .ref a9, .ref a10, .int 0, .int 0, .int 0]))] (fun r u => r = (-1) ∧ u = [(h0, .inr (11, [.ref a0, .ref a1, .ref a2, .ref a3, .ref a4, .ref a5, .ref a6, .ref a7, .ref a8, .ref a9, .ref a10, .int 0, .int 0, .int 0]))]) := by
  refine MetI.of (own := RX11) rfl (by decide) (Nat.le_of_ble_eq_true rfl) ?_
  intro p e s m below meth c A ls args Q hQ X hr hin hW hl
  have hx := X.1
  have hb := X.2.1
  have hl : lv_has ls 6 [(0, .ref h0), (1, .int p0), (2, .int p1)] := hl
  refine lv_aload_n (pc := 0) hx hb dX11_who_0 rfl (lv_at hl 0 rfl) ?_
  refine lv_iload_n (pc := 1) hx hb dX11_who_1 rfl (lv_at hl 1 rfl) ?_
  refine c_Vq (pc := 2) (As := [.int p0]) (rest := []) (wr := []) X hW 0 ciX11 rfl (C_X11_valleyAt l g h0 a0 a1 a2 a3 a4 a5 a6 a7 a8 a9 a10 p0) vX11_101 [0] [] rfl rfl rfl rfl rfl rfl hl.1 rfl (Nat.le_of_ble_eq_true rfl) ⟨Nat.le_of_ble_eq_true rfl, Nat.le_of_ble_eq_true rfl⟩ ⟨Nat.le_of_ble_eq_true rfl, Nat.le_of_ble_eq_true rfl⟩ dX11_who_2 (fun r1 u9 H locs hq hW => ?_)
  obtain ⟨rfl, rfl⟩ := hq
  have hW : WD g A s _ _ [(h0, .inr (11, [.ref a0, .ref a1, .ref a2, .ref a3, .ref a4, .ref a5, .ref a6, .ref a7, .ref a8, .ref a9, .ref a10, .int 0, .int 0, .int 0]))] := hW
  refine lv_astore_nN (lv' := [(3, .null), (0, .ref h0), (1, .int p0), (2, .int p1)]) (pc := 5) hx hb dX11_who_5 rfl hl (by decide) rfl (fun ls hl => ?_)
  refine lv_aload_nN (pc := 6) hx hb dX11_who_6 rfl (lv_at hl 0 rfl) ?_
  refine lv_ifnullN (tgt := 17) (pc := 7) hx hb dX11_who_7 rfl ?_
  refine lv_iconst (v := (-1)) (pc := 17) hx hb dX11_who_17 (by decide) ?_
  exact e_i X hQ hr hW (u := [(h0, .inr (11, [.ref a0, .ref a1, .ref a2, .ref a3, .ref a4, .ref a5, .ref a6, .ref a7, .ref a8, .ref a9, .ref a10, .int 0, .int 0, .int 0]))]) [0] rfl rfl (⟨rfl, rfl⟩) ⟨Nat.le_of_ble_eq_true rfl, Nat.le_of_ble_eq_true rfl⟩ dX11_who_18

set_option maxHeartbeats 4000000 in
set_option maxRecDepth 100000 in
theorem C_X11_fits (l : Launch) (g : GG) (h0 a0 a1 a2 a3 a4 a5 a6 a7 a8 a9 a10 : Nat) (p0 : Int32) (p1 : Int32) : MetI l g yX11_fits cX11_fits 8 (some .int) 1 0 0 [.ref h0, .int p0, .int p1] [(h0, .inr (11, [.ref a0, .ref a1, .ref a2, .ref a3, .ref a4, .ref a5, .ref a6, .ref a7, .ref a8, .ref a9, .ref a10, .int 0, .int 0, .int 0]))] (fun r u => r = (-1) ∧ u = [(h0, .inr (11, [.ref a0, .ref a1, .ref a2, .ref a3, .ref a4, .ref a5, .ref a6, .ref a7, .ref a8, .ref a9, .ref a10, .int 0, .int 0, .int 0]))]) := by
  refine MetI.of (own := RX11) rfl (by decide) (Nat.le_of_ble_eq_true rfl) ?_
  intro p e s m below meth c A ls args Q hQ X hr hin hW hl
  have hx := X.1
  have hb := X.2.1
  have hl : lv_has ls 8 [(0, .ref h0), (1, .int p0), (2, .int p1)] := hl
  refine lv_aload_n (pc := 0) hx hb dX11_fits_0 rfl (lv_at hl 0 rfl) ?_
  refine lv_iload_n (pc := 1) hx hb dX11_fits_1 rfl (lv_at hl 1 rfl) ?_
  refine c_Vq (pc := 2) (As := [.int p0]) (rest := []) (wr := []) X hW 0 ciX11 rfl (C_X11_planAt l g h0 a0 a1 a2 a3 a4 a5 a6 a7 a8 a9 a10 p0) vX11_157 [0] [] rfl rfl rfl rfl rfl rfl hl.1 rfl (Nat.le_of_ble_eq_true rfl) ⟨Nat.le_of_ble_eq_true rfl, Nat.le_of_ble_eq_true rfl⟩ ⟨Nat.le_of_ble_eq_true rfl, Nat.le_of_ble_eq_true rfl⟩ dX11_fits_2 (fun r1 u9 H locs hq hW => ?_)
  obtain ⟨rfl, rfl⟩ := hq
  have hW : WD g A s _ _ [(h0, .inr (11, [.ref a0, .ref a1, .ref a2, .ref a3, .ref a4, .ref a5, .ref a6, .ref a7, .ref a8, .ref a9, .ref a10, .int 0, .int 0, .int 0]))] := hW
  refine lv_astore_nN (lv' := [(3, .null), (0, .ref h0), (1, .int p0), (2, .int p1)]) (pc := 5) hx hb dX11_fits_5 rfl hl (by decide) rfl (fun ls hl => ?_)
  refine lv_aload_nN (pc := 6) hx hb dX11_fits_6 rfl (lv_at hl 0 rfl) ?_
  refine lv_ifnullN (tgt := 17) (pc := 7) hx hb dX11_fits_7 rfl ?_
  refine lv_iconst (v := (-1)) (pc := 17) hx hb dX11_fits_17 (by decide) ?_
  exact e_i X hQ hr hW (u := [(h0, .inr (11, [.ref a0, .ref a1, .ref a2, .ref a3, .ref a4, .ref a5, .ref a6, .ref a7, .ref a8, .ref a9, .ref a10, .int 0, .int 0, .int 0]))]) [0] rfl rfl (⟨rfl, rfl⟩) ⟨Nat.le_of_ble_eq_true rfl, Nat.le_of_ble_eq_true rfl⟩ dX11_fits_18
end
section
theorem m_1494 : (Cond.code yX12_isValley prog_14_method_19_code 2 (Option.some FieldType.boolean)) ∈ BW := bw (tb7 54 (by decide +kernel)) (by decide +kernel)
theorem dX12_isValley_0 : decode cX12_isValley 0 = .ok (.iload_n 1, 1) := by decide +kernel
theorem dX12_isValley_1 : decode cX12_isValley 1 = .ok (.ifCond .lt 15, 3) := by decide +kernel
theorem dX12_isValley_16 : decode cX12_isValley 16 = .ok (.iconst 0, 1) := by decide +kernel
theorem dX12_isValley_17 : decode cX12_isValley 17 = .ok (.ireturn, 1) := by decide +kernel
theorem dX12_isValley_4 : decode cX12_isValley 4 = .ok (.iload_n 1, 1) := by decide +kernel
theorem dX12_isValley_5 : decode cX12_isValley 5 = .ok (.aload_n 0, 1) := by decide +kernel
theorem m_1249 : (Cond.fieldLink "NoonValleyModel" 212 "NoonValleyModel" "valleys" "I") ∈ BW := bw (tb6 49 (by decide +kernel)) (by decide +kernel)
theorem dX12_isValley_6 : decode cX12_isValley 6 = .ok (.getfield 212, 3) := by decide +kernel
theorem dX12_isValley_9 : decode cX12_isValley 9 = .ok (.if_icmp .ge 7, 3) := by decide +kernel
theorem m_1541 : (Cond.code yX12_isPlan prog_14_method_32_code 2 (Option.some FieldType.boolean)) ∈ BW := bw (tb7 101 (by decide +kernel)) (by decide +kernel)
theorem dX12_isPlan_0 : decode cX12_isPlan 0 = .ok (.iload_n 1, 1) := by decide +kernel
theorem dX12_isPlan_1 : decode cX12_isPlan 1 = .ok (.ifCond .lt 15, 3) := by decide +kernel
theorem dX12_isPlan_16 : decode cX12_isPlan 16 = .ok (.iconst 0, 1) := by decide +kernel
theorem dX12_isPlan_17 : decode cX12_isPlan 17 = .ok (.ireturn, 1) := by decide +kernel
theorem dX12_isPlan_4 : decode cX12_isPlan 4 = .ok (.iload_n 1, 1) := by decide +kernel
theorem dX12_isPlan_5 : decode cX12_isPlan 5 = .ok (.aload_n 0, 1) := by decide +kernel
theorem m_1258 : (Cond.fieldLink "NoonValleyModel" 244 "NoonValleyModel" "plans" "I") ∈ BW := bw (tb6 58 (by decide +kernel)) (by decide +kernel)
theorem dX12_isPlan_6 : decode cX12_isPlan 6 = .ok (.getfield 244, 3) := by decide +kernel
theorem dX12_isPlan_9 : decode cX12_isPlan 9 = .ok (.if_icmp .ge 7, 3) := by decide +kernel
theorem m_1549 : (Cond.code yX12_isCall prog_14_method_37_code 3 (Option.some FieldType.boolean)) ∈ BW := bw (tb7 109 (by decide +kernel)) (by decide +kernel)
theorem dX12_isCall_0 : decode cX12_isCall 0 = .ok (.aload_n 0, 1) := by decide +kernel
theorem dX12_isCall_1 : decode cX12_isCall 1 = .ok (.iload_n 1, 1) := by decide +kernel
theorem m_1538 : (Cond.methodLink "NoonValleyModel" 247 yX12_isPlan) ∈ BW := bw (tb7 98 (by decide +kernel)) (by decide +kernel)
theorem m_12 : (Cond.initialized "NoonValleyModel") ∈ BW := bw (tb1 12 (by decide +kernel)) (by decide +kernel)
theorem m_1540 : (Cond.instanceMethod yX12_isPlan) ∈ BW := bw (tb7 100 (by decide +kernel)) (by decide +kernel)
theorem s_5_3 : (Cond.selects RX12 yX12_isPlan yX12_isPlan) ∈ BW := bw (sl5 (y := yX12_isPlan) (n := 64) 3 (by decide +kernel)) (by decide +kernel)
theorem vX12_247 : LV RX12 247 RX12 yX12_isPlan cX12_isPlan 2 (some .boolean) 1 := ⟨m_1538, m_1540, s_5_3, m_12, m_1541, rfl, by decide, by decide, by decide +kernel⟩
theorem dX12_isCall_2 : decode cX12_isCall 2 = .ok (.invokevirtual 247, 3) := by decide +kernel
theorem dX12_isCall_5 : decode cX12_isCall 5 = .ok (.ifCond .eq 23, 3) := by decide +kernel
theorem dX12_isCall_28 : decode cX12_isCall 28 = .ok (.iconst 0, 1) := by decide +kernel
theorem dX12_isCall_29 : decode cX12_isCall 29 = .ok (.ireturn, 1) := by decide +kernel
theorem m_1502 : (Cond.code yX12_isLine prog_14_method_25_code 3 (Option.some FieldType.boolean)) ∈ BW := bw (tb7 62 (by decide +kernel)) (by decide +kernel)
theorem dX12_isLine_0 : decode cX12_isLine 0 = .ok (.aload_n 0, 1) := by decide +kernel
theorem dX12_isLine_1 : decode cX12_isLine 1 = .ok (.iload_n 1, 1) := by decide +kernel
theorem m_1491 : (Cond.methodLink "NoonValleyModel" 221 yX12_isValley) ∈ BW := bw (tb7 51 (by decide +kernel)) (by decide +kernel)
theorem m_1493 : (Cond.instanceMethod yX12_isValley) ∈ BW := bw (tb7 53 (by decide +kernel)) (by decide +kernel)
theorem s_4_13 : (Cond.selects RX12 yX12_isValley yX12_isValley) ∈ BW := bw (sl4 (y := yX12_isValley) (n := 64) 13 (by decide +kernel)) (by decide +kernel)
theorem vX12_221 : LV RX12 221 RX12 yX12_isValley cX12_isValley 2 (some .boolean) 1 := ⟨m_1491, m_1493, s_4_13, m_12, m_1494, rfl, by decide, by decide, by decide +kernel⟩
theorem dX12_isLine_2 : decode cX12_isLine 2 = .ok (.invokevirtual 221, 3) := by decide +kernel
theorem dX12_isLine_5 : decode cX12_isLine 5 = .ok (.ifCond .eq 23, 3) := by decide +kernel
theorem dX12_isLine_28 : decode cX12_isLine 28 = .ok (.iconst 0, 1) := by decide +kernel
theorem dX12_isLine_29 : decode cX12_isLine 29 = .ok (.ireturn, 1) := by decide +kernel
theorem m_1609 : (Cond.code yX12_isAsked prog_14_method_53_code 3 (Option.some FieldType.boolean)) ∈ BW := bw (tb7 169 (by decide +kernel)) (by decide +kernel)
theorem dX12_isAsked_0 : decode cX12_isAsked 0 = .ok (.aload_n 0, 1) := by decide +kernel
theorem dX12_isAsked_1 : decode cX12_isAsked 1 = .ok (.iconst 0, 1) := by decide +kernel
theorem m_1231 : (Cond.fieldLink "NoonValleyModel" 160 "NoonValleyModel" "thrown" "I") ∈ BW := bw (tb6 31 (by decide +kernel)) (by decide +kernel)
theorem dX12_isAsked_2 : decode cX12_isAsked 2 = .ok (.putfield 160, 3) := by decide +kernel
theorem dX12_isAsked_5 : decode cX12_isAsked 5 = .ok (.aload_n 0, 1) := by decide +kernel
theorem dX12_isAsked_6 : decode cX12_isAsked 6 = .ok (.iload_n 1, 1) := by decide +kernel
theorem dX12_isAsked_7 : decode cX12_isAsked 7 = .ok (.invokevirtual 221, 3) := by decide +kernel
theorem dX12_isAsked_10 : decode cX12_isAsked 10 = .ok (.ifCond .eq 14, 3) := by decide +kernel
theorem dX12_isAsked_24 : decode cX12_isAsked 24 = .ok (.iconst 0, 1) := by decide +kernel
theorem dX12_isAsked_25 : decode cX12_isAsked 25 = .ok (.ireturn, 1) := by decide +kernel
theorem m_1490 : (Cond.code yX12_told prog_14_method_24_code 3 (Option.some FieldType.int)) ∈ BW := bw (tb7 50 (by decide +kernel)) (by decide +kernel)
theorem dX12_told_0 : decode cX12_told 0 = .ok (.aload_n 0, 1) := by decide +kernel
theorem dX12_told_1 : decode cX12_told 1 = .ok (.iconst 0, 1) := by decide +kernel
theorem dX12_told_2 : decode cX12_told 2 = .ok (.putfield 160, 3) := by decide +kernel
theorem dX12_told_5 : decode cX12_told 5 = .ok (.aload_n 0, 1) := by decide +kernel
theorem dX12_told_6 : decode cX12_told 6 = .ok (.iload_n 1, 1) := by decide +kernel
theorem dX12_told_7 : decode cX12_told 7 = .ok (.invokevirtual 221, 3) := by decide +kernel
theorem dX12_told_10 : decode cX12_told 10 = .ok (.ifCond .ne 5, 3) := by decide +kernel
theorem dX12_told_13 : decode cX12_told 13 = .ok (.iconst (-1), 1) := by decide +kernel
theorem dX12_told_14 : decode cX12_told 14 = .ok (.ireturn, 1) := by decide +kernel
theorem m_1506 : (Cond.code yX12_down prog_14_method_27_code 4 (Option.some FieldType.boolean)) ∈ BW := bw (tb7 66 (by decide +kernel)) (by decide +kernel)
theorem dX12_down_0 : decode cX12_down 0 = .ok (.aload_n 0, 1) := by decide +kernel
theorem dX12_down_1 : decode cX12_down 1 = .ok (.iconst 0, 1) := by decide +kernel
theorem dX12_down_2 : decode cX12_down 2 = .ok (.putfield 160, 3) := by decide +kernel
theorem dX12_down_5 : decode cX12_down 5 = .ok (.aload_n 0, 1) := by decide +kernel
theorem dX12_down_6 : decode cX12_down 6 = .ok (.iload_n 1, 1) := by decide +kernel
theorem dX12_down_7 : decode cX12_down 7 = .ok (.iload_n 2, 1) := by decide +kernel
theorem m_1499 : (Cond.methodLink "NoonValleyModel" 224 yX12_isLine) ∈ BW := bw (tb7 59 (by decide +kernel)) (by decide +kernel)
theorem m_1501 : (Cond.instanceMethod yX12_isLine) ∈ BW := bw (tb7 61 (by decide +kernel)) (by decide +kernel)
theorem s_4_14 : (Cond.selects RX12 yX12_isLine yX12_isLine) ∈ BW := bw (sl4 (y := yX12_isLine) (n := 64) 14 (by decide +kernel)) (by decide +kernel)
theorem vX12_224 : LV RX12 224 RX12 yX12_isLine cX12_isLine 3 (some .boolean) 2 := ⟨m_1499, m_1501, s_4_14, m_12, m_1502, rfl, by decide, by decide, by decide +kernel⟩
theorem dX12_down_8 : decode cX12_down 8 = .ok (.invokevirtual 224, 3) := by decide +kernel
theorem dX12_down_11 : decode cX12_down 11 = .ok (.ifCond .eq 15, 3) := by decide +kernel
theorem dX12_down_26 : decode cX12_down 26 = .ok (.iconst 0, 1) := by decide +kernel
theorem dX12_down_27 : decode cX12_down 27 = .ok (.ireturn, 1) := by decide +kernel
theorem m_1513 : (Cond.code yX12_may prog_14_method_31_code 5 (Option.some FieldType.int)) ∈ BW := bw (tb7 73 (by decide +kernel)) (by decide +kernel)
theorem dX12_may_0 : decode cX12_may 0 = .ok (.aload_n 0, 1) := by decide +kernel
theorem dX12_may_1 : decode cX12_may 1 = .ok (.iconst 0, 1) := by decide +kernel
theorem dX12_may_2 : decode cX12_may 2 = .ok (.putfield 160, 3) := by decide +kernel
theorem dX12_may_5 : decode cX12_may 5 = .ok (.aload_n 0, 1) := by decide +kernel
theorem dX12_may_6 : decode cX12_may 6 = .ok (.iload_n 1, 1) := by decide +kernel
theorem dX12_may_7 : decode cX12_may 7 = .ok (.invokevirtual 221, 3) := by decide +kernel
theorem dX12_may_10 : decode cX12_may 10 = .ok (.ifCond .eq 34, 3) := by decide +kernel
theorem dX12_may_44 : decode cX12_may 44 = .ok (.iconst (-1), 1) := by decide +kernel
theorem dX12_may_45 : decode cX12_may 45 = .ok (.goto 20, 3) := by decide +kernel
theorem dX12_may_65 : decode cX12_may 65 = .ok (.ireturn, 1) := by decide +kernel
theorem m_1533 : (Cond.code yX12_plan prog_14_method_33_code 2 (Option.some FieldType.int)) ∈ BW := bw (tb7 93 (by decide +kernel)) (by decide +kernel)
theorem dX12_plan_0 : decode cX12_plan 0 = .ok (.aload_n 0, 1) := by decide +kernel
theorem dX12_plan_1 : decode cX12_plan 1 = .ok (.iconst 0, 1) := by decide +kernel
theorem dX12_plan_2 : decode cX12_plan 2 = .ok (.putfield 160, 3) := by decide +kernel
theorem dX12_plan_5 : decode cX12_plan 5 = .ok (.aload_n 0, 1) := by decide +kernel
theorem dX12_plan_6 : decode cX12_plan 6 = .ok (.getfield 244, 3) := by decide +kernel
theorem dX12_plan_9 : decode cX12_plan 9 = .ok (.bipush 12, 2) := by decide +kernel
theorem dX12_plan_11 : decode cX12_plan 11 = .ok (.if_icmp .eq 11, 3) := by decide +kernel
theorem dX12_plan_14 : decode cX12_plan 14 = .ok (.aload_n 0, 1) := by decide +kernel
theorem dX12_plan_15 : decode cX12_plan 15 = .ok (.iload_n 1, 1) := by decide +kernel
theorem dX12_plan_16 : decode cX12_plan 16 = .ok (.invokevirtual 221, 3) := by decide +kernel
theorem dX12_plan_19 : decode cX12_plan 19 = .ok (.ifCond .ne 5, 3) := by decide +kernel
theorem dX12_plan_22 : decode cX12_plan 22 = .ok (.iconst (-1), 1) := by decide +kernel
theorem dX12_plan_23 : decode cX12_plan 23 = .ok (.ireturn, 1) := by decide +kernel
theorem m_1537 : (Cond.code yX12_call prog_14_method_34_code 7 (Option.some FieldType.int)) ∈ BW := bw (tb7 97 (by decide +kernel)) (by decide +kernel)
theorem dX12_call_0 : decode cX12_call 0 = .ok (.aload_n 0, 1) := by decide +kernel
theorem dX12_call_1 : decode cX12_call 1 = .ok (.iconst 0, 1) := by decide +kernel
theorem dX12_call_2 : decode cX12_call 2 = .ok (.putfield 160, 3) := by decide +kernel
theorem dX12_call_5 : decode cX12_call 5 = .ok (.aload_n 0, 1) := by decide +kernel
theorem dX12_call_6 : decode cX12_call 6 = .ok (.iload_n 1, 1) := by decide +kernel
theorem dX12_call_7 : decode cX12_call 7 = .ok (.invokevirtual 247, 3) := by decide +kernel
theorem dX12_call_10 : decode cX12_call 10 = .ok (.ifCond .eq 45, 3) := by decide +kernel
theorem dX12_call_55 : decode cX12_call 55 = .ok (.iconst (-1), 1) := by decide +kernel
theorem dX12_call_56 : decode cX12_call 56 = .ok (.ireturn, 1) := by decide +kernel
theorem m_1545 : (Cond.code yX12_lawful prog_14_method_38_code 3 (Option.some FieldType.int)) ∈ BW := bw (tb7 105 (by decide +kernel)) (by decide +kernel)
theorem dX12_lawful_0 : decode cX12_lawful 0 = .ok (.aload_n 0, 1) := by decide +kernel
theorem dX12_lawful_1 : decode cX12_lawful 1 = .ok (.iconst 0, 1) := by decide +kernel
theorem dX12_lawful_2 : decode cX12_lawful 2 = .ok (.putfield 160, 3) := by decide +kernel
theorem dX12_lawful_5 : decode cX12_lawful 5 = .ok (.aload_n 0, 1) := by decide +kernel
theorem dX12_lawful_6 : decode cX12_lawful 6 = .ok (.iload_n 1, 1) := by decide +kernel
theorem dX12_lawful_7 : decode cX12_lawful 7 = .ok (.iload_n 2, 1) := by decide +kernel
theorem m_1546 : (Cond.methodLink "NoonValleyModel" 254 yX12_isCall) ∈ BW := bw (tb7 106 (by decide +kernel)) (by decide +kernel)
theorem m_1548 : (Cond.instanceMethod yX12_isCall) ∈ BW := bw (tb7 108 (by decide +kernel)) (by decide +kernel)
theorem s_5_4 : (Cond.selects RX12 yX12_isCall yX12_isCall) ∈ BW := bw (sl5 (y := yX12_isCall) (n := 64) 4 (by decide +kernel)) (by decide +kernel)
theorem vX12_254 : LV RX12 254 RX12 yX12_isCall cX12_isCall 3 (some .boolean) 2 := ⟨m_1546, m_1548, s_5_4, m_12, m_1549, rfl, by decide, by decide, by decide +kernel⟩
theorem dX12_lawful_8 : decode cX12_lawful 8 = .ok (.invokevirtual 254, 3) := by decide +kernel
theorem dX12_lawful_11 : decode cX12_lawful 11 = .ok (.ifCond .ne 5, 3) := by decide +kernel
theorem dX12_lawful_14 : decode cX12_lawful 14 = .ok (.iconst (-1), 1) := by decide +kernel
theorem dX12_lawful_15 : decode cX12_lawful 15 = .ok (.ireturn, 1) := by decide +kernel
theorem m_1561 : (Cond.code yX12_unlawful prog_14_method_39_code 3 (Option.some FieldType.int)) ∈ BW := bw (tb7 121 (by decide +kernel)) (by decide +kernel)
theorem dX12_unlawful_0 : decode cX12_unlawful 0 = .ok (.aload_n 0, 1) := by decide +kernel
theorem dX12_unlawful_1 : decode cX12_unlawful 1 = .ok (.iconst 0, 1) := by decide +kernel
theorem dX12_unlawful_2 : decode cX12_unlawful 2 = .ok (.putfield 160, 3) := by decide +kernel
theorem dX12_unlawful_5 : decode cX12_unlawful 5 = .ok (.aload_n 0, 1) := by decide +kernel
theorem dX12_unlawful_6 : decode cX12_unlawful 6 = .ok (.iload_n 1, 1) := by decide +kernel
theorem dX12_unlawful_7 : decode cX12_unlawful 7 = .ok (.invokevirtual 247, 3) := by decide +kernel
theorem dX12_unlawful_10 : decode cX12_unlawful 10 = .ok (.ifCond .ne 5, 3) := by decide +kernel
theorem dX12_unlawful_13 : decode cX12_unlawful 13 = .ok (.iconst (-1), 1) := by decide +kernel
theorem dX12_unlawful_14 : decode cX12_unlawful 14 = .ok (.ireturn, 1) := by decide +kernel
theorem m_1565 : (Cond.code yX12_known prog_14_method_45_code 4 (Option.some FieldType.int)) ∈ BW := bw (tb7 125 (by decide +kernel)) (by decide +kernel)
theorem dX12_known_0 : decode cX12_known 0 = .ok (.aload_n 0, 1) := by decide +kernel
theorem dX12_known_1 : decode cX12_known 1 = .ok (.iconst 0, 1) := by decide +kernel
theorem dX12_known_2 : decode cX12_known 2 = .ok (.putfield 160, 3) := by decide +kernel
theorem dX12_known_5 : decode cX12_known 5 = .ok (.aload_n 0, 1) := by decide +kernel
theorem dX12_known_6 : decode cX12_known 6 = .ok (.iload_n 1, 1) := by decide +kernel
theorem dX12_known_7 : decode cX12_known 7 = .ok (.invokevirtual 247, 3) := by decide +kernel
theorem dX12_known_10 : decode cX12_known 10 = .ok (.ifCond .eq 27, 3) := by decide +kernel
theorem dX12_known_37 : decode cX12_known 37 = .ok (.iconst (-1), 1) := by decide +kernel
theorem dX12_known_38 : decode cX12_known 38 = .ok (.ireturn, 1) := by decide +kernel
theorem m_1585 : (Cond.code yX12_together prog_14_method_46_code 6 (Option.some FieldType.int)) ∈ BW := bw (tb7 145 (by decide +kernel)) (by decide +kernel)
theorem dX12_together_0 : decode cX12_together 0 = .ok (.aload_n 0, 1) := by decide +kernel
theorem dX12_together_1 : decode cX12_together 1 = .ok (.iconst 0, 1) := by decide +kernel
theorem dX12_together_2 : decode cX12_together 2 = .ok (.putfield 160, 3) := by decide +kernel
theorem dX12_together_5 : decode cX12_together 5 = .ok (.aload_n 0, 1) := by decide +kernel
theorem dX12_together_6 : decode cX12_together 6 = .ok (.iload_n 1, 1) := by decide +kernel
theorem dX12_together_7 : decode cX12_together 7 = .ok (.invokevirtual 247, 3) := by decide +kernel
theorem dX12_together_10 : decode cX12_together 10 = .ok (.ifCond .eq 31, 3) := by decide +kernel
theorem dX12_together_41 : decode cX12_together 41 = .ok (.iconst (-1), 1) := by decide +kernel
theorem dX12_together_42 : decode cX12_together 42 = .ok (.ireturn, 1) := by decide +kernel
theorem m_1593 : (Cond.code yX12_when prog_14_method_48_code 6 (Option.some FieldType.int)) ∈ BW := bw (tb7 153 (by decide +kernel)) (by decide +kernel)
theorem dX12_when_0 : decode cX12_when 0 = .ok (.aload_n 0, 1) := by decide +kernel
theorem dX12_when_1 : decode cX12_when 1 = .ok (.iconst 0, 1) := by decide +kernel
theorem dX12_when_2 : decode cX12_when 2 = .ok (.putfield 160, 3) := by decide +kernel
theorem dX12_when_5 : decode cX12_when 5 = .ok (.aload_n 0, 1) := by decide +kernel
theorem dX12_when_6 : decode cX12_when 6 = .ok (.iload_n 1, 1) := by decide +kernel
theorem dX12_when_7 : decode cX12_when 7 = .ok (.invokevirtual 247, 3) := by decide +kernel
theorem dX12_when_10 : decode cX12_when 10 = .ok (.ifCond .eq 12, 3) := by decide +kernel
theorem dX12_when_22 : decode cX12_when 22 = .ok (.iconst (-1), 1) := by decide +kernel
theorem dX12_when_23 : decode cX12_when 23 = .ok (.ireturn, 1) := by decide +kernel
theorem m_1605 : (Cond.code yX12_least prog_14_method_55_code 5 (Option.some FieldType.int)) ∈ BW := bw (tb7 165 (by decide +kernel)) (by decide +kernel)
theorem dX12_least_0 : decode cX12_least 0 = .ok (.aload_n 0, 1) := by decide +kernel
theorem dX12_least_1 : decode cX12_least 1 = .ok (.iload_n 1, 1) := by decide +kernel
theorem dX12_least_2 : decode cX12_least 2 = .ok (.iload_n 2, 1) := by decide +kernel
theorem m_1606 : (Cond.methodLink "NoonValleyModel" 315 yX12_isAsked) ∈ BW := bw (tb7 166 (by decide +kernel)) (by decide +kernel)
theorem m_1608 : (Cond.instanceMethod yX12_isAsked) ∈ BW := bw (tb7 168 (by decide +kernel)) (by decide +kernel)
theorem s_5_14 : (Cond.selects RX12 yX12_isAsked yX12_isAsked) ∈ BW := bw (sl5 (y := yX12_isAsked) (n := 64) 14 (by decide +kernel)) (by decide +kernel)
theorem vX12_315 : LV RX12 315 RX12 yX12_isAsked cX12_isAsked 3 (some .boolean) 2 := ⟨m_1606, m_1608, s_5_14, m_12, m_1609, rfl, by decide, by decide, by decide +kernel⟩
theorem dX12_least_3 : decode cX12_least 3 = .ok (.invokevirtual 315, 3) := by decide +kernel
theorem dX12_least_6 : decode cX12_least 6 = .ok (.ifCond .eq 10, 3) := by decide +kernel
theorem dX12_least_16 : decode cX12_least 16 = .ok (.iconst (-1), 1) := by decide +kernel
theorem dX12_least_17 : decode cX12_least 17 = .ok (.ireturn, 1) := by decide +kernel
theorem m_1637 : (Cond.code yX12_found prog_14_method_57_code 11 (Option.some FieldType.int)) ∈ BW := bw (tb7 197 (by decide +kernel)) (by decide +kernel)
theorem dX12_found_0 : decode cX12_found 0 = .ok (.aload_n 0, 1) := by decide +kernel
theorem dX12_found_1 : decode cX12_found 1 = .ok (.iload_n 1, 1) := by decide +kernel
theorem dX12_found_2 : decode cX12_found 2 = .ok (.iload_n 2, 1) := by decide +kernel
theorem dX12_found_3 : decode cX12_found 3 = .ok (.invokevirtual 315, 3) := by decide +kernel
theorem dX12_found_6 : decode cX12_found 6 = .ok (.ifCond .eq 20, 3) := by decide +kernel
theorem dX12_found_26 : decode cX12_found 26 = .ok (.iconst (-1), 1) := by decide +kernel
theorem dX12_found_27 : decode cX12_found 27 = .ok (.ireturn, 1) := by decide +kernel
theorem m_1657 : (Cond.code yX12_reach prog_14_method_62_code 9 (Option.some FieldType.int)) ∈ BW := bw (tb7 217 (by decide +kernel)) (by decide +kernel)
theorem dX12_reach_0 : decode cX12_reach 0 = .ok (.aload_n 0, 1) := by decide +kernel
theorem dX12_reach_1 : decode cX12_reach 1 = .ok (.iload_n 1, 1) := by decide +kernel
theorem dX12_reach_2 : decode cX12_reach 2 = .ok (.iload_n 2, 1) := by decide +kernel
theorem dX12_reach_3 : decode cX12_reach 3 = .ok (.invokevirtual 315, 3) := by decide +kernel
theorem dX12_reach_6 : decode cX12_reach 6 = .ok (.ifCond .eq 23, 3) := by decide +kernel
theorem dX12_reach_29 : decode cX12_reach 29 = .ok (.iconst (-1), 1) := by decide +kernel
theorem dX12_reach_30 : decode cX12_reach 30 = .ok (.ireturn, 1) := by decide +kernel
theorem m_1645 : (Cond.code yX12_from prog_14_method_58_code 8 (Option.some FieldType.int)) ∈ BW := bw (tb7 205 (by decide +kernel)) (by decide +kernel)
theorem dX12_from_0 : decode cX12_from 0 = .ok (.aload_n 0, 1) := by decide +kernel
theorem dX12_from_1 : decode cX12_from 1 = .ok (.iconst 0, 1) := by decide +kernel
theorem dX12_from_2 : decode cX12_from 2 = .ok (.putfield 160, 3) := by decide +kernel
theorem dX12_from_5 : decode cX12_from 5 = .ok (.aload_n 0, 1) := by decide +kernel
theorem dX12_from_6 : decode cX12_from 6 = .ok (.iload_n 1, 1) := by decide +kernel
theorem dX12_from_7 : decode cX12_from 7 = .ok (.invokevirtual 247, 3) := by decide +kernel
theorem dX12_from_10 : decode cX12_from 10 = .ok (.ifCond .eq 20, 3) := by decide +kernel
theorem dX12_from_30 : decode cX12_from 30 = .ok (.iconst (-1), 1) := by decide +kernel
theorem dX12_from_31 : decode cX12_from 31 = .ok (.ireturn, 1) := by decide +kernel
theorem m_1649 : (Cond.code yX12_added prog_14_method_60_code 11 (Option.some FieldType.int)) ∈ BW := bw (tb7 209 (by decide +kernel)) (by decide +kernel)
theorem dX12_added_0 : decode cX12_added 0 = .ok (.aload_n 0, 1) := by decide +kernel
theorem dX12_added_1 : decode cX12_added 1 = .ok (.iload_n 1, 1) := by decide +kernel
theorem dX12_added_2 : decode cX12_added 2 = .ok (.iload_n 2, 1) := by decide +kernel
theorem dX12_added_3 : decode cX12_added 3 = .ok (.invokevirtual 315, 3) := by decide +kernel
theorem dX12_added_6 : decode cX12_added 6 = .ok (.ifCond .eq 12, 3) := by decide +kernel
theorem dX12_added_18 : decode cX12_added 18 = .ok (.iconst (-1), 1) := by decide +kernel
theorem dX12_added_19 : decode cX12_added 19 = .ok (.ireturn, 1) := by decide +kernel
theorem m_1666 : (Cond.code yX12_shut prog_14_method_64_code 9 (Option.some FieldType.int)) ∈ BW := bw (tb7 226 (by decide +kernel)) (by decide +kernel)
theorem dX12_shut_0 : decode cX12_shut 0 = .ok (.aload_n 0, 1) := by decide +kernel
theorem dX12_shut_1 : decode cX12_shut 1 = .ok (.iload_n 1, 1) := by decide +kernel
theorem dX12_shut_2 : decode cX12_shut 2 = .ok (.iload_n 2, 1) := by decide +kernel
theorem dX12_shut_3 : decode cX12_shut 3 = .ok (.invokevirtual 315, 3) := by decide +kernel
theorem dX12_shut_6 : decode cX12_shut 6 = .ok (.ifCond .eq 36, 3) := by decide +kernel
theorem dX12_shut_42 : decode cX12_shut 42 = .ok (.iconst (-1), 1) := by decide +kernel
theorem dX12_shut_43 : decode cX12_shut 43 = .ok (.ireturn, 1) := by decide +kernel
theorem m_1674 : (Cond.code yX12_fewest prog_14_method_68_code 2 (Option.some FieldType.int)) ∈ BW := bw (tb7 234 (by decide +kernel)) (by decide +kernel)
theorem dX12_fewest_0 : decode cX12_fewest 0 = .ok (.aload_n 0, 1) := by decide +kernel
theorem dX12_fewest_1 : decode cX12_fewest 1 = .ok (.iconst 0, 1) := by decide +kernel
theorem dX12_fewest_2 : decode cX12_fewest 2 = .ok (.putfield 160, 3) := by decide +kernel
theorem dX12_fewest_5 : decode cX12_fewest 5 = .ok (.aload_n 0, 1) := by decide +kernel
theorem dX12_fewest_6 : decode cX12_fewest 6 = .ok (.iload_n 1, 1) := by decide +kernel
theorem dX12_fewest_7 : decode cX12_fewest 7 = .ok (.invokevirtual 221, 3) := by decide +kernel
theorem dX12_fewest_10 : decode cX12_fewest 10 = .ok (.ifCond .eq 11, 3) := by decide +kernel
theorem dX12_fewest_21 : decode cX12_fewest 21 = .ok (.iconst (-1), 1) := by decide +kernel
theorem dX12_fewest_22 : decode cX12_fewest 22 = .ok (.ireturn, 1) := by decide +kernel
theorem m_1690 : (Cond.code yX12_gossip prog_14_method_69_code 4 (Option.some FieldType.int)) ∈ BW := bw (tb8 10 (by decide +kernel)) (by decide +kernel)
theorem dX12_gossip_0 : decode cX12_gossip 0 = .ok (.aload_n 0, 1) := by decide +kernel
theorem dX12_gossip_1 : decode cX12_gossip 1 = .ok (.iconst 0, 1) := by decide +kernel
theorem dX12_gossip_2 : decode cX12_gossip 2 = .ok (.putfield 160, 3) := by decide +kernel
theorem dX12_gossip_5 : decode cX12_gossip 5 = .ok (.aload_n 0, 1) := by decide +kernel
theorem dX12_gossip_6 : decode cX12_gossip 6 = .ok (.iload_n 1, 1) := by decide +kernel
theorem dX12_gossip_7 : decode cX12_gossip 7 = .ok (.invokevirtual 221, 3) := by decide +kernel
theorem dX12_gossip_10 : decode cX12_gossip 10 = .ok (.ifCond .ne 5, 3) := by decide +kernel
theorem dX12_gossip_13 : decode cX12_gossip 13 = .ok (.iconst (-1), 1) := by decide +kernel
theorem dX12_gossip_14 : decode cX12_gossip 14 = .ok (.ireturn, 1) := by decide +kernel
theorem m_1694 : (Cond.code yX12_ends prog_14_method_70_code 4 (Option.some FieldType.int)) ∈ BW := bw (tb8 14 (by decide +kernel)) (by decide +kernel)
theorem dX12_ends_0 : decode cX12_ends 0 = .ok (.aload_n 0, 1) := by decide +kernel
theorem dX12_ends_1 : decode cX12_ends 1 = .ok (.iconst 0, 1) := by decide +kernel
theorem dX12_ends_2 : decode cX12_ends 2 = .ok (.putfield 160, 3) := by decide +kernel
theorem dX12_ends_5 : decode cX12_ends 5 = .ok (.aload_n 0, 1) := by decide +kernel
theorem dX12_ends_6 : decode cX12_ends 6 = .ok (.iload_n 1, 1) := by decide +kernel
theorem dX12_ends_7 : decode cX12_ends 7 = .ok (.invokevirtual 221, 3) := by decide +kernel
theorem dX12_ends_10 : decode cX12_ends 10 = .ok (.ifCond .eq 20, 3) := by decide +kernel
theorem dX12_ends_30 : decode cX12_ends 30 = .ok (.iconst (-1), 1) := by decide +kernel
theorem dX12_ends_31 : decode cX12_ends 31 = .ok (.ireturn, 1) := by decide +kernel
theorem m_1698 : (Cond.code yX12_trade prog_14_method_75_code 6 (Option.some FieldType.int)) ∈ BW := bw (tb8 18 (by decide +kernel)) (by decide +kernel)
theorem dX12_trade_0 : decode cX12_trade 0 = .ok (.aload_n 0, 1) := by decide +kernel
theorem dX12_trade_1 : decode cX12_trade 1 = .ok (.iconst 0, 1) := by decide +kernel
theorem dX12_trade_2 : decode cX12_trade 2 = .ok (.putfield 160, 3) := by decide +kernel
theorem dX12_trade_5 : decode cX12_trade 5 = .ok (.aload_n 0, 1) := by decide +kernel
theorem dX12_trade_6 : decode cX12_trade 6 = .ok (.iload_n 1, 1) := by decide +kernel
theorem dX12_trade_7 : decode cX12_trade 7 = .ok (.invokevirtual 221, 3) := by decide +kernel
theorem dX12_trade_10 : decode cX12_trade 10 = .ok (.ifCond .eq 32, 3) := by decide +kernel
theorem dX12_trade_42 : decode cX12_trade 42 = .ok (.iconst (-1), 1) := by decide +kernel
theorem dX12_trade_43 : decode cX12_trade 43 = .ok (.ireturn, 1) := by decide +kernel
theorem m_1717 : (Cond.code yX12_card prog_14_method_76_code 5 (Option.some FieldType.int)) ∈ BW := bw (tb8 37 (by decide +kernel)) (by decide +kernel)
theorem dX12_card_0 : decode cX12_card 0 = .ok (.aload_n 0, 1) := by decide +kernel
theorem dX12_card_1 : decode cX12_card 1 = .ok (.iconst 0, 1) := by decide +kernel
theorem dX12_card_2 : decode cX12_card 2 = .ok (.putfield 160, 3) := by decide +kernel
theorem dX12_card_5 : decode cX12_card 5 = .ok (.aload_n 0, 1) := by decide +kernel
theorem dX12_card_6 : decode cX12_card 6 = .ok (.iload_n 1, 1) := by decide +kernel
theorem dX12_card_7 : decode cX12_card 7 = .ok (.invokevirtual 221, 3) := by decide +kernel
theorem dX12_card_10 : decode cX12_card 10 = .ok (.ifCond .eq 42, 3) := by decide +kernel
theorem dX12_card_52 : decode cX12_card 52 = .ok (.iconst (-1), 1) := by decide +kernel
theorem dX12_card_53 : decode cX12_card 53 = .ok (.ireturn, 1) := by decide +kernel
theorem m_1721 : (Cond.code yX12_blank prog_14_method_77_code 3 (Option.some FieldType.boolean)) ∈ BW := bw (tb8 41 (by decide +kernel)) (by decide +kernel)
theorem dX12_blank_0 : decode cX12_blank 0 = .ok (.aload_n 0, 1) := by decide +kernel
theorem dX12_blank_1 : decode cX12_blank 1 = .ok (.iconst 0, 1) := by decide +kernel
theorem dX12_blank_2 : decode cX12_blank 2 = .ok (.putfield 160, 3) := by decide +kernel
theorem dX12_blank_5 : decode cX12_blank 5 = .ok (.aload_n 0, 1) := by decide +kernel
theorem dX12_blank_6 : decode cX12_blank 6 = .ok (.iload_n 1, 1) := by decide +kernel
theorem dX12_blank_7 : decode cX12_blank 7 = .ok (.invokevirtual 221, 3) := by decide +kernel
theorem dX12_blank_10 : decode cX12_blank 10 = .ok (.ifCond .ne 5, 3) := by decide +kernel
theorem dX12_blank_13 : decode cX12_blank 13 = .ok (.iconst 0, 1) := by decide +kernel
theorem dX12_blank_14 : decode cX12_blank 14 = .ok (.ireturn, 1) := by decide +kernel
theorem m_1725 : (Cond.code yX12_kept prog_14_method_78_code 10 (Option.some FieldType.int)) ∈ BW := bw (tb8 45 (by decide +kernel)) (by decide +kernel)
theorem dX12_kept_0 : decode cX12_kept 0 = .ok (.aload_n 0, 1) := by decide +kernel
theorem dX12_kept_1 : decode cX12_kept 1 = .ok (.iconst 0, 1) := by decide +kernel
theorem dX12_kept_2 : decode cX12_kept 2 = .ok (.putfield 160, 3) := by decide +kernel
theorem dX12_kept_5 : decode cX12_kept 5 = .ok (.aload_n 0, 1) := by decide +kernel
theorem dX12_kept_6 : decode cX12_kept 6 = .ok (.iload_n 1, 1) := by decide +kernel
theorem dX12_kept_7 : decode cX12_kept 7 = .ok (.invokevirtual 221, 3) := by decide +kernel
theorem dX12_kept_10 : decode cX12_kept 10 = .ok (.ifCond .eq 12, 3) := by decide +kernel
theorem dX12_kept_22 : decode cX12_kept 22 = .ok (.iconst (-1), 1) := by decide +kernel
theorem dX12_kept_23 : decode cX12_kept 23 = .ok (.ireturn, 1) := by decide +kernel
theorem m_1729 : (Cond.code yX12_tree prog_14_method_82_code 5 (Option.some FieldType.int)) ∈ BW := bw (tb8 49 (by decide +kernel)) (by decide +kernel)
theorem dX12_tree_0 : decode cX12_tree 0 = .ok (.aload_n 0, 1) := by decide +kernel
theorem dX12_tree_1 : decode cX12_tree 1 = .ok (.iconst 0, 1) := by decide +kernel
theorem dX12_tree_2 : decode cX12_tree 2 = .ok (.putfield 160, 3) := by decide +kernel
theorem dX12_tree_5 : decode cX12_tree 5 = .ok (.aload_n 0, 1) := by decide +kernel
theorem dX12_tree_6 : decode cX12_tree 6 = .ok (.iload_n 1, 1) := by decide +kernel
theorem dX12_tree_7 : decode cX12_tree 7 = .ok (.invokevirtual 221, 3) := by decide +kernel
theorem dX12_tree_10 : decode cX12_tree 10 = .ok (.ifCond .eq 29, 3) := by decide +kernel
theorem dX12_tree_39 : decode cX12_tree 39 = .ok (.iconst (-1), 1) := by decide +kernel
theorem dX12_tree_40 : decode cX12_tree 40 = .ok (.ireturn, 1) := by decide +kernel
theorem m_1746 : (Cond.code yX12_breaks prog_14_method_85_code 4 (Option.some FieldType.int)) ∈ BW := bw (tb8 66 (by decide +kernel)) (by decide +kernel)
theorem dX12_breaks_0 : decode cX12_breaks 0 = .ok (.aload_n 0, 1) := by decide +kernel
theorem dX12_breaks_1 : decode cX12_breaks 1 = .ok (.iconst 0, 1) := by decide +kernel
theorem dX12_breaks_2 : decode cX12_breaks 2 = .ok (.putfield 160, 3) := by decide +kernel
theorem dX12_breaks_5 : decode cX12_breaks 5 = .ok (.aload_n 0, 1) := by decide +kernel
theorem dX12_breaks_6 : decode cX12_breaks 6 = .ok (.iload_n 1, 1) := by decide +kernel
theorem dX12_breaks_7 : decode cX12_breaks 7 = .ok (.invokevirtual 247, 3) := by decide +kernel
theorem dX12_breaks_10 : decode cX12_breaks 10 = .ok (.ifCond .ne 5, 3) := by decide +kernel
theorem dX12_breaks_13 : decode cX12_breaks 13 = .ok (.iconst (-1), 1) := by decide +kernel
theorem dX12_breaks_14 : decode cX12_breaks 14 = .ok (.ireturn, 1) := by decide +kernel
theorem m_1758 : (Cond.code yX12_breaker prog_14_method_86_code 3 (Option.some FieldType.int)) ∈ BW := bw (tb8 78 (by decide +kernel)) (by decide +kernel)
theorem dX12_breaker_0 : decode cX12_breaker 0 = .ok (.aload_n 0, 1) := by decide +kernel
theorem dX12_breaker_1 : decode cX12_breaker 1 = .ok (.iconst 0, 1) := by decide +kernel
theorem dX12_breaker_2 : decode cX12_breaker 2 = .ok (.putfield 160, 3) := by decide +kernel
theorem dX12_breaker_5 : decode cX12_breaker 5 = .ok (.aload_n 0, 1) := by decide +kernel
theorem dX12_breaker_6 : decode cX12_breaker 6 = .ok (.iload_n 1, 1) := by decide +kernel
theorem dX12_breaker_7 : decode cX12_breaker 7 = .ok (.invokevirtual 247, 3) := by decide +kernel
theorem dX12_breaker_10 : decode cX12_breaker 10 = .ok (.ifCond .ne 5, 3) := by decide +kernel
theorem dX12_breaker_13 : decode cX12_breaker 13 = .ok (.iconst (-1), 1) := by decide +kernel
theorem dX12_breaker_14 : decode cX12_breaker 14 = .ok (.ireturn, 1) := by decide +kernel
theorem m_1777 : (Cond.code yX12_tale prog_14_method_90_code 5 (Option.some FieldType.boolean)) ∈ BW := bw (tb8 97 (by decide +kernel)) (by decide +kernel)
theorem dX12_tale_0 : decode cX12_tale 0 = .ok (.aload_n 0, 1) := by decide +kernel
theorem dX12_tale_1 : decode cX12_tale 1 = .ok (.iconst 0, 1) := by decide +kernel
theorem dX12_tale_2 : decode cX12_tale 2 = .ok (.putfield 160, 3) := by decide +kernel
theorem dX12_tale_5 : decode cX12_tale 5 = .ok (.aload_n 0, 1) := by decide +kernel
theorem dX12_tale_6 : decode cX12_tale 6 = .ok (.iload_n 1, 1) := by decide +kernel
theorem dX12_tale_7 : decode cX12_tale 7 = .ok (.invokevirtual 221, 3) := by decide +kernel
theorem dX12_tale_10 : decode cX12_tale 10 = .ok (.ifCond .eq 30, 3) := by decide +kernel
theorem dX12_tale_40 : decode cX12_tale 40 = .ok (.iconst 0, 1) := by decide +kernel
theorem dX12_tale_41 : decode cX12_tale 41 = .ok (.ireturn, 1) := by decide +kernel
theorem m_1781 : (Cond.code yX12_who prog_14_method_95_code 5 (Option.some FieldType.int)) ∈ BW := bw (tb8 101 (by decide +kernel)) (by decide +kernel)
theorem dX12_who_0 : decode cX12_who 0 = .ok (.aload_n 0, 1) := by decide +kernel
theorem dX12_who_1 : decode cX12_who 1 = .ok (.iload_n 1, 1) := by decide +kernel
theorem dX12_who_2 : decode cX12_who 2 = .ok (.iload_n 2, 1) := by decide +kernel
theorem dX12_who_3 : decode cX12_who 3 = .ok (.invokevirtual 315, 3) := by decide +kernel
theorem dX12_who_6 : decode cX12_who 6 = .ok (.ifCond .ne 5, 3) := by decide +kernel
theorem dX12_who_9 : decode cX12_who 9 = .ok (.iconst (-1), 1) := by decide +kernel
theorem dX12_who_10 : decode cX12_who 10 = .ok (.ireturn, 1) := by decide +kernel
theorem m_1801 : (Cond.code yX12_fits prog_14_method_96_code 7 (Option.some FieldType.int)) ∈ BW := bw (tb8 121 (by decide +kernel)) (by decide +kernel)
theorem dX12_fits_0 : decode cX12_fits 0 = .ok (.aload_n 0, 1) := by decide +kernel
theorem dX12_fits_1 : decode cX12_fits 1 = .ok (.iconst 0, 1) := by decide +kernel
theorem dX12_fits_2 : decode cX12_fits 2 = .ok (.putfield 160, 3) := by decide +kernel
theorem dX12_fits_5 : decode cX12_fits 5 = .ok (.aload_n 0, 1) := by decide +kernel
theorem dX12_fits_6 : decode cX12_fits 6 = .ok (.iload_n 1, 1) := by decide +kernel
theorem dX12_fits_7 : decode cX12_fits 7 = .ok (.invokevirtual 247, 3) := by decide +kernel
theorem dX12_fits_10 : decode cX12_fits 10 = .ok (.ifCond .eq 10, 3) := by decide +kernel
theorem dX12_fits_20 : decode cX12_fits 20 = .ok (.iconst (-1), 1) := by decide +kernel
theorem dX12_fits_21 : decode cX12_fits 21 = .ok (.ireturn, 1) := by decide +kernel
theorem m_1498 : (Cond.code yX12_line prog_14_method_26_code 5 (Option.some FieldType.int)) ∈ BW := bw (tb7 58 (by decide +kernel)) (by decide +kernel)
theorem dX12_line_0 : decode cX12_line 0 = .ok (.aload_n 0, 1) := by decide +kernel
theorem dX12_line_1 : decode cX12_line 1 = .ok (.aload_n 0, 1) := by decide +kernel
theorem dX12_line_2 : decode cX12_line 2 = .ok (.iload_n 1, 1) := by decide +kernel
theorem dX12_line_3 : decode cX12_line 3 = .ok (.iload_n 2, 1) := by decide +kernel
theorem dX12_line_4 : decode cX12_line 4 = .ok (.invokevirtual 224, 3) := by decide +kernel
theorem dX12_line_7 : decode cX12_line 7 = .ok (.ifCond .eq 16, 3) := by decide +kernel
theorem dX12_line_23 : decode cX12_line 23 = .ok (.iconst 1, 1) := by decide +kernel
theorem dX12_line_24 : decode cX12_line 24 = .ok (.putfield 160, 3) := by decide +kernel
theorem dX12_line_27 : decode cX12_line 27 = .ok (.aload_n 0, 1) := by decide +kernel
theorem dX12_line_28 : decode cX12_line 28 = .ok (.getfield 160, 3) := by decide +kernel
theorem dX12_line_31 : decode cX12_line 31 = .ok (.ifCond .le 5, 3) := by decide +kernel
theorem dX12_line_34 : decode cX12_line 34 = .ok (.iconst 0, 1) := by decide +kernel
theorem dX12_line_35 : decode cX12_line 35 = .ok (.ireturn, 1) := by decide +kernel
set_option maxHeartbeats 4000000 in
set_option maxRecDepth 100000 in
theorem C_X12_isValley (l : Launch) (g : GG) (h0 b1 b6 b7 b8 b9 b10 b11 b12 b13 b14 b15 b16 b17 b21 b22 b23 b24 b25 b26 b28 b29 b30 b31 b32 b33 b34 b35 b36 b46 b47 b48 b49 b50 b51 b52 b53 b54 b55 b56 b57 b58 b59 b60 b61 b62 b63 : Nat) (p0 : Int32) : MetI l g yX12_isValley cX12_isValley 2 (some .boolean) 0 0 0 [.ref h0, .int p0] [(h0, .inr (12, [.int 0, .ref b1, .int 0, .int 0, .int 0, .int 0, .ref b6, .ref b7, .ref b8, .ref b9, .ref b10, .ref b11, .ref b12, .ref b13, .ref b14, .ref b15, .ref b16, .ref b17, .int 0, .int (-1), .int (-1), .ref b21, .ref b22, .ref b23, .ref b24, .ref b25, .ref b26, .int 0, .ref b28, .ref b29, .ref b30, .ref b31, .ref b32, .ref b33, .ref b34, .ref b35, .ref b36, .int 0, .int 0, .int 0, .int 0, .int 0, .int 0, .int 0, .int 0, .int 0, .ref b46, .ref b47, .ref b48, .ref b49, .ref b50, .ref b51, .ref b52, .ref b53, .ref b54, .ref b55, .ref b56, .ref b57, .ref b58, .ref b59, .ref b60, .ref b61, .ref b62, .ref b63]))] (fun r u => r = 0 ∧ u = [(h0, .inr (12, [.int 0, .ref b1, .int 0, .int 0, .int 0, .int 0, .ref b6, .ref b7, .ref b8, .ref b9, .ref b10, .ref b11, .ref b12, .ref b13, .ref b14, .ref b15, .ref b16, .ref b17, .int 0, .int (-1), .int (-1), .ref b21, .ref b22, .ref b23, .ref b24, .ref b25, .ref b26, .int 0, .ref b28, .ref b29, .ref b30, .ref b31, .ref b32, .ref b33, .ref b34, .ref b35, .ref b36, .int 0, .int 0, .int 0, .int 0, .int 0, .int 0, .int 0, .int 0, .int 0, .ref b46, .ref b47, .ref b48, .ref b49, .ref b50, .ref b51, .ref b52, .ref b53, .ref b54, .ref b55, .ref b56, .ref b57, .ref b58, .ref b59, .ref b60, .ref b61, .ref b62, .ref b63]))]) := by
  refine MetI.of (own := RX12) rfl (by decide) (Nat.le_of_ble_eq_true rfl) ?_
  intro p e s m below meth c A ls args Q hQ X hr hin hW hl
  have hx := X.1
  have hb := X.2.1
  have hl : lv_has ls 2 [(0, .ref h0), (1, .int p0)] := hl
  refine lv_iload_n (pc := 0) hx hb dX12_isValley_0 rfl (lv_at hl 1 rfl) ?_
  refine lv_if_lt (tgt := 16) (pc := 1) hx hb dX12_isValley_1 rfl (fun c1 => ?_) (fun c1 => ?_)
  · refine lv_iconst (v := 0) (pc := 16) hx hb dX12_isValley_16 (by decide) ?_
    exact e_z X hQ hr hW (u := [(h0, .inr (12, [.int 0, .ref b1, .int 0, .int 0, .int 0, .int 0, .ref b6, .ref b7, .ref b8, .ref b9, .ref b10, .ref b11, .ref b12, .ref b13, .ref b14, .ref b15, .ref b16, .ref b17, .int 0, .int (-1), .int (-1), .ref b21, .ref b22, .ref b23, .ref b24, .ref b25, .ref b26, .int 0, .ref b28, .ref b29, .ref b30, .ref b31, .ref b32, .ref b33, .ref b34, .ref b35, .ref b36, .int 0, .int 0, .int 0, .int 0, .int 0, .int 0, .int 0, .int 0, .int 0, .ref b46, .ref b47, .ref b48, .ref b49, .ref b50, .ref b51, .ref b52, .ref b53, .ref b54, .ref b55, .ref b56, .ref b57, .ref b58, .ref b59, .ref b60, .ref b61, .ref b62, .ref b63]))]) rfl [0] rfl rfl (⟨rfl, rfl⟩) ⟨Nat.le_of_ble_eq_true rfl, Nat.le_of_ble_eq_true rfl⟩ dX12_isValley_17
  · refine lv_iload_n (pc := 4) hx hb dX12_isValley_4 rfl (lv_at hl 1 rfl) ?_
    refine lv_aload_n (pc := 5) hx hb dX12_isValley_5 rfl (lv_at hl 0 rfl) ?_
    refine r_get X hW 0 ciX12 18 rfl (by decide) m_1249 rfl rfl dX12_isValley_6 ?_
    refine lv_icmp_ge (tgt := 16) (pc := 9) hx hb dX12_isValley_9 rfl (fun c2 => ?_) (fun c2 => absurd (fa_of_nlt c1) c2)
    refine lv_iconst (v := 0) (pc := 16) hx hb dX12_isValley_16 (by decide) ?_
    exact e_z X hQ hr hW (u := [(h0, .inr (12, [.int 0, .ref b1, .int 0, .int 0, .int 0, .int 0, .ref b6, .ref b7, .ref b8, .ref b9, .ref b10, .ref b11, .ref b12, .ref b13, .ref b14, .ref b15, .ref b16, .ref b17, .int 0, .int (-1), .int (-1), .ref b21, .ref b22, .ref b23, .ref b24, .ref b25, .ref b26, .int 0, .ref b28, .ref b29, .ref b30, .ref b31, .ref b32, .ref b33, .ref b34, .ref b35, .ref b36, .int 0, .int 0, .int 0, .int 0, .int 0, .int 0, .int 0, .int 0, .int 0, .ref b46, .ref b47, .ref b48, .ref b49, .ref b50, .ref b51, .ref b52, .ref b53, .ref b54, .ref b55, .ref b56, .ref b57, .ref b58, .ref b59, .ref b60, .ref b61, .ref b62, .ref b63]))]) rfl [0] rfl rfl (⟨rfl, rfl⟩) ⟨Nat.le_of_ble_eq_true rfl, Nat.le_of_ble_eq_true rfl⟩ dX12_isValley_17

set_option maxHeartbeats 4000000 in
set_option maxRecDepth 100000 in
theorem C_X12_isPlan (l : Launch) (g : GG) (h0 b1 b6 b7 b8 b9 b10 b11 b12 b13 b14 b15 b16 b17 b21 b22 b23 b24 b25 b26 b28 b29 b30 b31 b32 b33 b34 b35 b36 b46 b47 b48 b49 b50 b51 b52 b53 b54 b55 b56 b57 b58 b59 b60 b61 b62 b63 : Nat) (p0 : Int32) : MetI l g yX12_isPlan cX12_isPlan 2 (some .boolean) 0 0 0 [.ref h0, .int p0] [(h0, .inr (12, [.int 0, .ref b1, .int 0, .int 0, .int 0, .int 0, .ref b6, .ref b7, .ref b8, .ref b9, .ref b10, .ref b11, .ref b12, .ref b13, .ref b14, .ref b15, .ref b16, .ref b17, .int 0, .int (-1), .int (-1), .ref b21, .ref b22, .ref b23, .ref b24, .ref b25, .ref b26, .int 0, .ref b28, .ref b29, .ref b30, .ref b31, .ref b32, .ref b33, .ref b34, .ref b35, .ref b36, .int 0, .int 0, .int 0, .int 0, .int 0, .int 0, .int 0, .int 0, .int 0, .ref b46, .ref b47, .ref b48, .ref b49, .ref b50, .ref b51, .ref b52, .ref b53, .ref b54, .ref b55, .ref b56, .ref b57, .ref b58, .ref b59, .ref b60, .ref b61, .ref b62, .ref b63]))] (fun r u => r = 0 ∧ u = [(h0, .inr (12, [.int 0, .ref b1, .int 0, .int 0, .int 0, .int 0, .ref b6, .ref b7, .ref b8, .ref b9, .ref b10, .ref b11, .ref b12, .ref b13, .ref b14, .ref b15, .ref b16, .ref b17, .int 0, .int (-1), .int (-1), .ref b21, .ref b22, .ref b23, .ref b24, .ref b25, .ref b26, .int 0, .ref b28, .ref b29, .ref b30, .ref b31, .ref b32, .ref b33, .ref b34, .ref b35, .ref b36, .int 0, .int 0, .int 0, .int 0, .int 0, .int 0, .int 0, .int 0, .int 0, .ref b46, .ref b47, .ref b48, .ref b49, .ref b50, .ref b51, .ref b52, .ref b53, .ref b54, .ref b55, .ref b56, .ref b57, .ref b58, .ref b59, .ref b60, .ref b61, .ref b62, .ref b63]))]) := by
  refine MetI.of (own := RX12) rfl (by decide) (Nat.le_of_ble_eq_true rfl) ?_
  intro p e s m below meth c A ls args Q hQ X hr hin hW hl
  have hx := X.1
  have hb := X.2.1
  have hl : lv_has ls 2 [(0, .ref h0), (1, .int p0)] := hl
  refine lv_iload_n (pc := 0) hx hb dX12_isPlan_0 rfl (lv_at hl 1 rfl) ?_
  refine lv_if_lt (tgt := 16) (pc := 1) hx hb dX12_isPlan_1 rfl (fun c1 => ?_) (fun c1 => ?_)
  · refine lv_iconst (v := 0) (pc := 16) hx hb dX12_isPlan_16 (by decide) ?_
    exact e_z X hQ hr hW (u := [(h0, .inr (12, [.int 0, .ref b1, .int 0, .int 0, .int 0, .int 0, .ref b6, .ref b7, .ref b8, .ref b9, .ref b10, .ref b11, .ref b12, .ref b13, .ref b14, .ref b15, .ref b16, .ref b17, .int 0, .int (-1), .int (-1), .ref b21, .ref b22, .ref b23, .ref b24, .ref b25, .ref b26, .int 0, .ref b28, .ref b29, .ref b30, .ref b31, .ref b32, .ref b33, .ref b34, .ref b35, .ref b36, .int 0, .int 0, .int 0, .int 0, .int 0, .int 0, .int 0, .int 0, .int 0, .ref b46, .ref b47, .ref b48, .ref b49, .ref b50, .ref b51, .ref b52, .ref b53, .ref b54, .ref b55, .ref b56, .ref b57, .ref b58, .ref b59, .ref b60, .ref b61, .ref b62, .ref b63]))]) rfl [0] rfl rfl (⟨rfl, rfl⟩) ⟨Nat.le_of_ble_eq_true rfl, Nat.le_of_ble_eq_true rfl⟩ dX12_isPlan_17
  · refine lv_iload_n (pc := 4) hx hb dX12_isPlan_4 rfl (lv_at hl 1 rfl) ?_
    refine lv_aload_n (pc := 5) hx hb dX12_isPlan_5 rfl (lv_at hl 0 rfl) ?_
    refine r_get X hW 0 ciX12 27 rfl (by decide) m_1258 rfl rfl dX12_isPlan_6 ?_
    refine lv_icmp_ge (tgt := 16) (pc := 9) hx hb dX12_isPlan_9 rfl (fun c2 => ?_) (fun c2 => absurd (fa_of_nlt c1) c2)
    refine lv_iconst (v := 0) (pc := 16) hx hb dX12_isPlan_16 (by decide) ?_
    exact e_z X hQ hr hW (u := [(h0, .inr (12, [.int 0, .ref b1, .int 0, .int 0, .int 0, .int 0, .ref b6, .ref b7, .ref b8, .ref b9, .ref b10, .ref b11, .ref b12, .ref b13, .ref b14, .ref b15, .ref b16, .ref b17, .int 0, .int (-1), .int (-1), .ref b21, .ref b22, .ref b23, .ref b24, .ref b25, .ref b26, .int 0, .ref b28, .ref b29, .ref b30, .ref b31, .ref b32, .ref b33, .ref b34, .ref b35, .ref b36, .int 0, .int 0, .int 0, .int 0, .int 0, .int 0, .int 0, .int 0, .int 0, .ref b46, .ref b47, .ref b48, .ref b49, .ref b50, .ref b51, .ref b52, .ref b53, .ref b54, .ref b55, .ref b56, .ref b57, .ref b58, .ref b59, .ref b60, .ref b61, .ref b62, .ref b63]))]) rfl [0] rfl rfl (⟨rfl, rfl⟩) ⟨Nat.le_of_ble_eq_true rfl, Nat.le_of_ble_eq_true rfl⟩ dX12_isPlan_17

set_option maxHeartbeats 4000000 in
set_option maxRecDepth 100000 in
theorem C_X12_isCall (l : Launch) (g : GG) (h0 b1 b6 b7 b8 b9 b10 b11 b12 b13 b14 b15 b16 b17 b21 b22 b23 b24 b25 b26 b28 b29 b30 b31 b32 b33 b34 b35 b36 b46 b47 b48 b49 b50 b51 b52 b53 b54 b55 b56 b57 b58 b59 b60 b61 b62 b63 : Nat) (p0 : Int32) (p1 : Int32) : MetI l g yX12_isCall cX12_isCall 3 (some .boolean) 1 0 0 [.ref h0, .int p0, .int p1] [(h0, .inr (12, [.int 0, .ref b1, .int 0, .int 0, .int 0, .int 0, .ref b6, .ref b7, .ref b8, .ref b9, .ref b10, .ref b11, .ref b12, .ref b13, .ref b14, .ref b15, .ref b16, .ref b17, .int 0, .int (-1), .int (-1), .ref b21, .ref b22, .ref b23, .ref b24, .ref b25, .ref b26, .int 0, .ref b28, .ref b29, .ref b30, .ref b31, .ref b32, .ref b33, .ref b34, .ref b35, .ref b36, .int 0, .int 0, .int 0, .int 0, .int 0, .int 0, .int 0, .int 0, .int 0, .ref b46, .ref b47, .ref b48, .ref b49, .ref b50, .ref b51, .ref b52, .ref b53, .ref b54, .ref b55, .ref b56, .ref b57, .ref b58, .ref b59, .ref b60, .ref b61, .ref b62, .ref b63]))] (fun r u => r = 0 ∧ u = [(h0, .inr (12, [.int 0, .ref b1, .int 0, .int 0, .int 0, .int 0, .ref b6, .ref b7, .ref b8, .ref b9, .ref b10, .ref b11, .ref b12, .ref b13, .ref b14, .ref b15, .ref b16, .ref b17, .int 0, .int (-1), .int (-1), .ref b21, .ref b22, .ref b23, .ref b24, .ref b25, .ref b26, .int 0, .ref b28, .ref b29, .ref b30, .ref b31, .ref b32, .ref b33, .ref b34, .ref b35, .ref b36, .int 0, .int 0, .int 0, .int 0, .int 0, .int 0, .int 0, .int 0, .int 0, .ref b46, .ref b47, .ref b48, .ref b49, .ref b50, .ref b51, .ref b52, .ref b53, .ref b54, .ref b55, .ref b56, .ref b57, .ref b58, .ref b59, .ref b60, .ref b61, .ref b62, .ref b63]))]) := by
  refine MetI.of (own := RX12) rfl (by decide) (Nat.le_of_ble_eq_true rfl) ?_
  intro p e s m below meth c A ls args Q hQ X hr hin hW hl
  have hx := X.1
  have hb := X.2.1
  have hl : lv_has ls 3 [(0, .ref h0), (1, .int p0), (2, .int p1)] := hl
  refine lv_aload_n (pc := 0) hx hb dX12_isCall_0 rfl (lv_at hl 0 rfl) ?_
  refine lv_iload_n (pc := 1) hx hb dX12_isCall_1 rfl (lv_at hl 1 rfl) ?_
  refine c_Vi (pc := 2) (As := [.int p0]) (rest := []) (wr := []) X hW 0 ciX12 rfl (C_X12_isPlan l g h0 b1 b6 b7 b8 b9 b10 b11 b12 b13 b14 b15 b16 b17 b21 b22 b23 b24 b25 b26 b28 b29 b30 b31 b32 b33 b34 b35 b36 b46 b47 b48 b49 b50 b51 b52 b53 b54 b55 b56 b57 b58 b59 b60 b61 b62 b63 p0) vX12_247 [0] [] rfl rfl rfl rfl rfl rfl hl.1 rfl (Nat.le_of_ble_eq_true rfl) ⟨Nat.le_of_ble_eq_true rfl, Nat.le_of_ble_eq_true rfl⟩ ⟨Nat.le_of_ble_eq_true rfl, Nat.le_of_ble_eq_true rfl⟩ dX12_isCall_2 (fun r1 u9 H locs hq hW => ?_)
  obtain ⟨rfl, rfl⟩ := hq
  have hW : WD g A s _ _ [(h0, .inr (12, [.int 0, .ref b1, .int 0, .int 0, .int 0, .int 0, .ref b6, .ref b7, .ref b8, .ref b9, .ref b10, .ref b11, .ref b12, .ref b13, .ref b14, .ref b15, .ref b16, .ref b17, .int 0, .int (-1), .int (-1), .ref b21, .ref b22, .ref b23, .ref b24, .ref b25, .ref b26, .int 0, .ref b28, .ref b29, .ref b30, .ref b31, .ref b32, .ref b33, .ref b34, .ref b35, .ref b36, .int 0, .int 0, .int 0, .int 0, .int 0, .int 0, .int 0, .int 0, .int 0, .ref b46, .ref b47, .ref b48, .ref b49, .ref b50, .ref b51, .ref b52, .ref b53, .ref b54, .ref b55, .ref b56, .ref b57, .ref b58, .ref b59, .ref b60, .ref b61, .ref b62, .ref b63]))] := hW
  refine lv_if_eq (tgt := 28) (pc := 5) hx hb dX12_isCall_5 rfl (fun c2 => ?_) (fun c2 => absurd (by decide) c2)
  refine lv_iconst (v := 0) (pc := 28) hx hb dX12_isCall_28 (by decide) ?_
  exact e_z X hQ hr hW (u := [(h0, .inr (12, [.int 0, .ref b1, .int 0, .int 0, .int 0, .int 0, .ref b6, .ref b7, .ref b8, .ref b9, .ref b10, .ref b11, .ref b12, .ref b13, .ref b14, .ref b15, .ref b16, .ref b17, .int 0, .int (-1), .int (-1), .ref b21, .ref b22, .ref b23, .ref b24, .ref b25, .ref b26, .int 0, .ref b28, .ref b29, .ref b30, .ref b31, .ref b32, .ref b33, .ref b34, .ref b35, .ref b36, .int 0, .int 0, .int 0, .int 0, .int 0, .int 0, .int 0, .int 0, .int 0, .ref b46, .ref b47, .ref b48, .ref b49, .ref b50, .ref b51, .ref b52, .ref b53, .ref b54, .ref b55, .ref b56, .ref b57, .ref b58, .ref b59, .ref b60, .ref b61, .ref b62, .ref b63]))]) rfl [0] rfl rfl (⟨rfl, rfl⟩) ⟨Nat.le_of_ble_eq_true rfl, Nat.le_of_ble_eq_true rfl⟩ dX12_isCall_29

set_option maxHeartbeats 4000000 in
set_option maxRecDepth 100000 in
theorem C_X12_isLine (l : Launch) (g : GG) (h0 b1 b6 b7 b8 b9 b10 b11 b12 b13 b14 b15 b16 b17 b21 b22 b23 b24 b25 b26 b28 b29 b30 b31 b32 b33 b34 b35 b36 b46 b47 b48 b49 b50 b51 b52 b53 b54 b55 b56 b57 b58 b59 b60 b61 b62 b63 : Nat) (p0 : Int32) (p1 : Int32) : MetI l g yX12_isLine cX12_isLine 3 (some .boolean) 1 0 0 [.ref h0, .int p0, .int p1] [(h0, .inr (12, [.int 0, .ref b1, .int 0, .int 0, .int 0, .int 0, .ref b6, .ref b7, .ref b8, .ref b9, .ref b10, .ref b11, .ref b12, .ref b13, .ref b14, .ref b15, .ref b16, .ref b17, .int 0, .int (-1), .int (-1), .ref b21, .ref b22, .ref b23, .ref b24, .ref b25, .ref b26, .int 0, .ref b28, .ref b29, .ref b30, .ref b31, .ref b32, .ref b33, .ref b34, .ref b35, .ref b36, .int 0, .int 0, .int 0, .int 0, .int 0, .int 0, .int 0, .int 0, .int 0, .ref b46, .ref b47, .ref b48, .ref b49, .ref b50, .ref b51, .ref b52, .ref b53, .ref b54, .ref b55, .ref b56, .ref b57, .ref b58, .ref b59, .ref b60, .ref b61, .ref b62, .ref b63]))] (fun r u => r = 0 ∧ u = [(h0, .inr (12, [.int 0, .ref b1, .int 0, .int 0, .int 0, .int 0, .ref b6, .ref b7, .ref b8, .ref b9, .ref b10, .ref b11, .ref b12, .ref b13, .ref b14, .ref b15, .ref b16, .ref b17, .int 0, .int (-1), .int (-1), .ref b21, .ref b22, .ref b23, .ref b24, .ref b25, .ref b26, .int 0, .ref b28, .ref b29, .ref b30, .ref b31, .ref b32, .ref b33, .ref b34, .ref b35, .ref b36, .int 0, .int 0, .int 0, .int 0, .int 0, .int 0, .int 0, .int 0, .int 0, .ref b46, .ref b47, .ref b48, .ref b49, .ref b50, .ref b51, .ref b52, .ref b53, .ref b54, .ref b55, .ref b56, .ref b57, .ref b58, .ref b59, .ref b60, .ref b61, .ref b62, .ref b63]))]) := by
  refine MetI.of (own := RX12) rfl (by decide) (Nat.le_of_ble_eq_true rfl) ?_
  intro p e s m below meth c A ls args Q hQ X hr hin hW hl
  have hx := X.1
  have hb := X.2.1
  have hl : lv_has ls 3 [(0, .ref h0), (1, .int p0), (2, .int p1)] := hl
  refine lv_aload_n (pc := 0) hx hb dX12_isLine_0 rfl (lv_at hl 0 rfl) ?_
  refine lv_iload_n (pc := 1) hx hb dX12_isLine_1 rfl (lv_at hl 1 rfl) ?_
  refine c_Vi (pc := 2) (As := [.int p0]) (rest := []) (wr := []) X hW 0 ciX12 rfl (C_X12_isValley l g h0 b1 b6 b7 b8 b9 b10 b11 b12 b13 b14 b15 b16 b17 b21 b22 b23 b24 b25 b26 b28 b29 b30 b31 b32 b33 b34 b35 b36 b46 b47 b48 b49 b50 b51 b52 b53 b54 b55 b56 b57 b58 b59 b60 b61 b62 b63 p0) vX12_221 [0] [] rfl rfl rfl rfl rfl rfl hl.1 rfl (Nat.le_of_ble_eq_true rfl) ⟨Nat.le_of_ble_eq_true rfl, Nat.le_of_ble_eq_true rfl⟩ ⟨Nat.le_of_ble_eq_true rfl, Nat.le_of_ble_eq_true rfl⟩ dX12_isLine_2 (fun r1 u9 H locs hq hW => ?_)
  obtain ⟨rfl, rfl⟩ := hq
  have hW : WD g A s _ _ [(h0, .inr (12, [.int 0, .ref b1, .int 0, .int 0, .int 0, .int 0, .ref b6, .ref b7, .ref b8, .ref b9, .ref b10, .ref b11, .ref b12, .ref b13, .ref b14, .ref b15, .ref b16, .ref b17, .int 0, .int (-1), .int (-1), .ref b21, .ref b22, .ref b23, .ref b24, .ref b25, .ref b26, .int 0, .ref b28, .ref b29, .ref b30, .ref b31, .ref b32, .ref b33, .ref b34, .ref b35, .ref b36, .int 0, .int 0, .int 0, .int 0, .int 0, .int 0, .int 0, .int 0, .int 0, .ref b46, .ref b47, .ref b48, .ref b49, .ref b50, .ref b51, .ref b52, .ref b53, .ref b54, .ref b55, .ref b56, .ref b57, .ref b58, .ref b59, .ref b60, .ref b61, .ref b62, .ref b63]))] := hW
  refine lv_if_eq (tgt := 28) (pc := 5) hx hb dX12_isLine_5 rfl (fun c2 => ?_) (fun c2 => absurd (by decide) c2)
  refine lv_iconst (v := 0) (pc := 28) hx hb dX12_isLine_28 (by decide) ?_
  exact e_z X hQ hr hW (u := [(h0, .inr (12, [.int 0, .ref b1, .int 0, .int 0, .int 0, .int 0, .ref b6, .ref b7, .ref b8, .ref b9, .ref b10, .ref b11, .ref b12, .ref b13, .ref b14, .ref b15, .ref b16, .ref b17, .int 0, .int (-1), .int (-1), .ref b21, .ref b22, .ref b23, .ref b24, .ref b25, .ref b26, .int 0, .ref b28, .ref b29, .ref b30, .ref b31, .ref b32, .ref b33, .ref b34, .ref b35, .ref b36, .int 0, .int 0, .int 0, .int 0, .int 0, .int 0, .int 0, .int 0, .int 0, .ref b46, .ref b47, .ref b48, .ref b49, .ref b50, .ref b51, .ref b52, .ref b53, .ref b54, .ref b55, .ref b56, .ref b57, .ref b58, .ref b59, .ref b60, .ref b61, .ref b62, .ref b63]))]) rfl [0] rfl rfl (⟨rfl, rfl⟩) ⟨Nat.le_of_ble_eq_true rfl, Nat.le_of_ble_eq_true rfl⟩ dX12_isLine_29

set_option maxHeartbeats 4000000 in
set_option maxRecDepth 100000 in
theorem C_X12_isAsked (l : Launch) (g : GG) (h0 b1 b6 b7 b8 b9 b10 b11 b12 b13 b14 b15 b16 b17 b21 b22 b23 b24 b25 b26 b28 b29 b30 b31 b32 b33 b34 b35 b36 b46 b47 b48 b49 b50 b51 b52 b53 b54 b55 b56 b57 b58 b59 b60 b61 b62 b63 : Nat) (p0 : Int32) (p1 : Int32) : MetI l g yX12_isAsked cX12_isAsked 3 (some .boolean) 1 0 0 [.ref h0, .int p0, .int p1] [(h0, .inr (12, [.int 0, .ref b1, .int 0, .int 0, .int 0, .int 0, .ref b6, .ref b7, .ref b8, .ref b9, .ref b10, .ref b11, .ref b12, .ref b13, .ref b14, .ref b15, .ref b16, .ref b17, .int 0, .int (-1), .int (-1), .ref b21, .ref b22, .ref b23, .ref b24, .ref b25, .ref b26, .int 0, .ref b28, .ref b29, .ref b30, .ref b31, .ref b32, .ref b33, .ref b34, .ref b35, .ref b36, .int 0, .int 0, .int 0, .int 0, .int 0, .int 0, .int 0, .int 0, .int 0, .ref b46, .ref b47, .ref b48, .ref b49, .ref b50, .ref b51, .ref b52, .ref b53, .ref b54, .ref b55, .ref b56, .ref b57, .ref b58, .ref b59, .ref b60, .ref b61, .ref b62, .ref b63]))] (fun r u => r = 0 ∧ u = [(h0, .inr (12, [.int 0, .ref b1, .int 0, .int 0, .int 0, .int 0, .ref b6, .ref b7, .ref b8, .ref b9, .ref b10, .ref b11, .ref b12, .ref b13, .ref b14, .ref b15, .ref b16, .ref b17, .int 0, .int (-1), .int (-1), .ref b21, .ref b22, .ref b23, .ref b24, .ref b25, .ref b26, .int 0, .ref b28, .ref b29, .ref b30, .ref b31, .ref b32, .ref b33, .ref b34, .ref b35, .ref b36, .int 0, .int 0, .int 0, .int 0, .int 0, .int 0, .int 0, .int 0, .int 0, .ref b46, .ref b47, .ref b48, .ref b49, .ref b50, .ref b51, .ref b52, .ref b53, .ref b54, .ref b55, .ref b56, .ref b57, .ref b58, .ref b59, .ref b60, .ref b61, .ref b62, .ref b63]))]) := by
  refine MetI.of (own := RX12) rfl (by decide) (Nat.le_of_ble_eq_true rfl) ?_
  intro p e s m below meth c A ls args Q hQ X hr hin hW hl
  have hx := X.1
  have hb := X.2.1
  have hl : lv_has ls 3 [(0, .ref h0), (1, .int p0), (2, .int p1)] := hl
  refine lv_aload_n (pc := 0) hx hb dX12_isAsked_0 rfl (lv_at hl 0 rfl) ?_
  refine lv_iconst (v := 0) (pc := 1) hx hb dX12_isAsked_1 (by decide) ?_
  refine r_put (ws' := [(h0, .inr (12, [.int 0, .ref b1, .int 0, .int 0, .int 0, .int 0, .ref b6, .ref b7, .ref b8, .ref b9, .ref b10, .ref b11, .ref b12, .ref b13, .ref b14, .ref b15, .ref b16, .ref b17, .int 0, .int (-1), .int (-1), .ref b21, .ref b22, .ref b23, .ref b24, .ref b25, .ref b26, .int 0, .ref b28, .ref b29, .ref b30, .ref b31, .ref b32, .ref b33, .ref b34, .ref b35, .ref b36, .int 0, .int 0, .int 0, .int 0, .int 0, .int 0, .int 0, .int 0, .int 0, .ref b46, .ref b47, .ref b48, .ref b49, .ref b50, .ref b51, .ref b52, .ref b53, .ref b54, .ref b55, .ref b56, .ref b57, .ref b58, .ref b59, .ref b60, .ref b61, .ref b62, .ref b63]))]) X hW 0 ciX12 0 rfl (by decide) m_1231 rfl rfl rfl rfl (Nat.le_of_ble_eq_true rfl) rfl dX12_isAsked_2 (fun H locs hW => ?_)
  refine lv_aload_n (pc := 5) hx hb dX12_isAsked_5 rfl (lv_at hl 0 rfl) ?_
  refine lv_iload_n (pc := 6) hx hb dX12_isAsked_6 rfl (lv_at hl 1 rfl) ?_
  refine c_Vi (pc := 7) (As := [.int p0]) (rest := []) (wr := []) X hW 0 ciX12 rfl (C_X12_isValley l g h0 b1 b6 b7 b8 b9 b10 b11 b12 b13 b14 b15 b16 b17 b21 b22 b23 b24 b25 b26 b28 b29 b30 b31 b32 b33 b34 b35 b36 b46 b47 b48 b49 b50 b51 b52 b53 b54 b55 b56 b57 b58 b59 b60 b61 b62 b63 p0) vX12_221 [0] [] rfl rfl rfl rfl rfl rfl hl.1 rfl (Nat.le_of_ble_eq_true rfl) ⟨Nat.le_of_ble_eq_true rfl, Nat.le_of_ble_eq_true rfl⟩ ⟨Nat.le_of_ble_eq_true rfl, Nat.le_of_ble_eq_true rfl⟩ dX12_isAsked_7 (fun r1 u9 H locs hq hW => ?_)
  obtain ⟨rfl, rfl⟩ := hq
  have hW : WD g A s _ _ [(h0, .inr (12, [.int 0, .ref b1, .int 0, .int 0, .int 0, .int 0, .ref b6, .ref b7, .ref b8, .ref b9, .ref b10, .ref b11, .ref b12, .ref b13, .ref b14, .ref b15, .ref b16, .ref b17, .int 0, .int (-1), .int (-1), .ref b21, .ref b22, .ref b23, .ref b24, .ref b25, .ref b26, .int 0, .ref b28, .ref b29, .ref b30, .ref b31, .ref b32, .ref b33, .ref b34, .ref b35, .ref b36, .int 0, .int 0, .int 0, .int 0, .int 0, .int 0, .int 0, .int 0, .int 0, .ref b46, .ref b47, .ref b48, .ref b49, .ref b50, .ref b51, .ref b52, .ref b53, .ref b54, .ref b55, .ref b56, .ref b57, .ref b58, .ref b59, .ref b60, .ref b61, .ref b62, .ref b63]))] := hW
  refine lv_if_eq (tgt := 24) (pc := 10) hx hb dX12_isAsked_10 rfl (fun c2 => ?_) (fun c2 => absurd (by decide) c2)
  refine lv_iconst (v := 0) (pc := 24) hx hb dX12_isAsked_24 (by decide) ?_
  exact e_z X hQ hr hW (u := [(h0, .inr (12, [.int 0, .ref b1, .int 0, .int 0, .int 0, .int 0, .ref b6, .ref b7, .ref b8, .ref b9, .ref b10, .ref b11, .ref b12, .ref b13, .ref b14, .ref b15, .ref b16, .ref b17, .int 0, .int (-1), .int (-1), .ref b21, .ref b22, .ref b23, .ref b24, .ref b25, .ref b26, .int 0, .ref b28, .ref b29, .ref b30, .ref b31, .ref b32, .ref b33, .ref b34, .ref b35, .ref b36, .int 0, .int 0, .int 0, .int 0, .int 0, .int 0, .int 0, .int 0, .int 0, .ref b46, .ref b47, .ref b48, .ref b49, .ref b50, .ref b51, .ref b52, .ref b53, .ref b54, .ref b55, .ref b56, .ref b57, .ref b58, .ref b59, .ref b60, .ref b61, .ref b62, .ref b63]))]) rfl [0] rfl rfl (⟨rfl, rfl⟩) ⟨Nat.le_of_ble_eq_true rfl, Nat.le_of_ble_eq_true rfl⟩ dX12_isAsked_25

set_option maxHeartbeats 4000000 in
set_option maxRecDepth 100000 in
theorem C_X12_told (l : Launch) (g : GG) (h0 b1 b6 b7 b8 b9 b10 b11 b12 b13 b14 b15 b16 b17 b21 b22 b23 b24 b25 b26 b28 b29 b30 b31 b32 b33 b34 b35 b36 b46 b47 b48 b49 b50 b51 b52 b53 b54 b55 b56 b57 b58 b59 b60 b61 b62 b63 : Nat) (p0 : Int32) (p1 : Int32) : MetI l g yX12_told cX12_told 3 (some .int) 1 0 0 [.ref h0, .int p0, .int p1] [(h0, .inr (12, [.int 0, .ref b1, .int 0, .int 0, .int 0, .int 0, .ref b6, .ref b7, .ref b8, .ref b9, .ref b10, .ref b11, .ref b12, .ref b13, .ref b14, .ref b15, .ref b16, .ref b17, .int 0, .int (-1), .int (-1), .ref b21, .ref b22, .ref b23, .ref b24, .ref b25, .ref b26, .int 0, .ref b28, .ref b29, .ref b30, .ref b31, .ref b32, .ref b33, .ref b34, .ref b35, .ref b36, .int 0, .int 0, .int 0, .int 0, .int 0, .int 0, .int 0, .int 0, .int 0, .ref b46, .ref b47, .ref b48, .ref b49, .ref b50, .ref b51, .ref b52, .ref b53, .ref b54, .ref b55, .ref b56, .ref b57, .ref b58, .ref b59, .ref b60, .ref b61, .ref b62, .ref b63]))] (fun r u => r = (-1) ∧ u = [(h0, .inr (12, [.int 0, .ref b1, .int 0, .int 0, .int 0, .int 0, .ref b6, .ref b7, .ref b8, .ref b9, .ref b10, .ref b11, .ref b12, .ref b13, .ref b14, .ref b15, .ref b16, .ref b17, .int 0, .int (-1), .int (-1), .ref b21, .ref b22, .ref b23, .ref b24, .ref b25, .ref b26, .int 0, .ref b28, .ref b29, .ref b30, .ref b31, .ref b32, .ref b33, .ref b34, .ref b35, .ref b36, .int 0, .int 0, .int 0, .int 0, .int 0, .int 0, .int 0, .int 0, .int 0, .ref b46, .ref b47, .ref b48, .ref b49, .ref b50, .ref b51, .ref b52, .ref b53, .ref b54, .ref b55, .ref b56, .ref b57, .ref b58, .ref b59, .ref b60, .ref b61, .ref b62, .ref b63]))]) := by
  refine MetI.of (own := RX12) rfl (by decide) (Nat.le_of_ble_eq_true rfl) ?_
  intro p e s m below meth c A ls args Q hQ X hr hin hW hl
  have hx := X.1
  have hb := X.2.1
  have hl : lv_has ls 3 [(0, .ref h0), (1, .int p0), (2, .int p1)] := hl
  refine lv_aload_n (pc := 0) hx hb dX12_told_0 rfl (lv_at hl 0 rfl) ?_
  refine lv_iconst (v := 0) (pc := 1) hx hb dX12_told_1 (by decide) ?_
  refine r_put (ws' := [(h0, .inr (12, [.int 0, .ref b1, .int 0, .int 0, .int 0, .int 0, .ref b6, .ref b7, .ref b8, .ref b9, .ref b10, .ref b11, .ref b12, .ref b13, .ref b14, .ref b15, .ref b16, .ref b17, .int 0, .int (-1), .int (-1), .ref b21, .ref b22, .ref b23, .ref b24, .ref b25, .ref b26, .int 0, .ref b28, .ref b29, .ref b30, .ref b31, .ref b32, .ref b33, .ref b34, .ref b35, .ref b36, .int 0, .int 0, .int 0, .int 0, .int 0, .int 0, .int 0, .int 0, .int 0, .ref b46, .ref b47, .ref b48, .ref b49, .ref b50, .ref b51, .ref b52, .ref b53, .ref b54, .ref b55, .ref b56, .ref b57, .ref b58, .ref b59, .ref b60, .ref b61, .ref b62, .ref b63]))]) X hW 0 ciX12 0 rfl (by decide) m_1231 rfl rfl rfl rfl (Nat.le_of_ble_eq_true rfl) rfl dX12_told_2 (fun H locs hW => ?_)
  refine lv_aload_n (pc := 5) hx hb dX12_told_5 rfl (lv_at hl 0 rfl) ?_
  refine lv_iload_n (pc := 6) hx hb dX12_told_6 rfl (lv_at hl 1 rfl) ?_
  refine c_Vi (pc := 7) (As := [.int p0]) (rest := []) (wr := []) X hW 0 ciX12 rfl (C_X12_isValley l g h0 b1 b6 b7 b8 b9 b10 b11 b12 b13 b14 b15 b16 b17 b21 b22 b23 b24 b25 b26 b28 b29 b30 b31 b32 b33 b34 b35 b36 b46 b47 b48 b49 b50 b51 b52 b53 b54 b55 b56 b57 b58 b59 b60 b61 b62 b63 p0) vX12_221 [0] [] rfl rfl rfl rfl rfl rfl hl.1 rfl (Nat.le_of_ble_eq_true rfl) ⟨Nat.le_of_ble_eq_true rfl, Nat.le_of_ble_eq_true rfl⟩ ⟨Nat.le_of_ble_eq_true rfl, Nat.le_of_ble_eq_true rfl⟩ dX12_told_7 (fun r1 u9 H locs hq hW => ?_)
  obtain ⟨rfl, rfl⟩ := hq
  have hW : WD g A s _ _ [(h0, .inr (12, [.int 0, .ref b1, .int 0, .int 0, .int 0, .int 0, .ref b6, .ref b7, .ref b8, .ref b9, .ref b10, .ref b11, .ref b12, .ref b13, .ref b14, .ref b15, .ref b16, .ref b17, .int 0, .int (-1), .int (-1), .ref b21, .ref b22, .ref b23, .ref b24, .ref b25, .ref b26, .int 0, .ref b28, .ref b29, .ref b30, .ref b31, .ref b32, .ref b33, .ref b34, .ref b35, .ref b36, .int 0, .int 0, .int 0, .int 0, .int 0, .int 0, .int 0, .int 0, .int 0, .ref b46, .ref b47, .ref b48, .ref b49, .ref b50, .ref b51, .ref b52, .ref b53, .ref b54, .ref b55, .ref b56, .ref b57, .ref b58, .ref b59, .ref b60, .ref b61, .ref b62, .ref b63]))] := hW
  refine lv_if_ne (tgt := 15) (pc := 10) hx hb dX12_told_10 rfl (fun c2 => absurd (by decide) c2) (fun c2 => ?_)
  refine lv_iconst (v := (-1)) (pc := 13) hx hb dX12_told_13 (by decide) ?_
  exact e_i X hQ hr hW (u := [(h0, .inr (12, [.int 0, .ref b1, .int 0, .int 0, .int 0, .int 0, .ref b6, .ref b7, .ref b8, .ref b9, .ref b10, .ref b11, .ref b12, .ref b13, .ref b14, .ref b15, .ref b16, .ref b17, .int 0, .int (-1), .int (-1), .ref b21, .ref b22, .ref b23, .ref b24, .ref b25, .ref b26, .int 0, .ref b28, .ref b29, .ref b30, .ref b31, .ref b32, .ref b33, .ref b34, .ref b35, .ref b36, .int 0, .int 0, .int 0, .int 0, .int 0, .int 0, .int 0, .int 0, .int 0, .ref b46, .ref b47, .ref b48, .ref b49, .ref b50, .ref b51, .ref b52, .ref b53, .ref b54, .ref b55, .ref b56, .ref b57, .ref b58, .ref b59, .ref b60, .ref b61, .ref b62, .ref b63]))]) [0] rfl rfl (⟨rfl, rfl⟩) ⟨Nat.le_of_ble_eq_true rfl, Nat.le_of_ble_eq_true rfl⟩ dX12_told_14

set_option maxHeartbeats 4000000 in
set_option maxRecDepth 100000 in
theorem C_X12_down (l : Launch) (g : GG) (h0 b1 b6 b7 b8 b9 b10 b11 b12 b13 b14 b15 b16 b17 b21 b22 b23 b24 b25 b26 b28 b29 b30 b31 b32 b33 b34 b35 b36 b46 b47 b48 b49 b50 b51 b52 b53 b54 b55 b56 b57 b58 b59 b60 b61 b62 b63 : Nat) (p0 : Int32) (p1 : Int32) (p2 : Int32) : MetI l g yX12_down cX12_down 4 (some .boolean) 2 0 0 [.ref h0, .int p0, .int p1, .int p2] [(h0, .inr (12, [.int 0, .ref b1, .int 0, .int 0, .int 0, .int 0, .ref b6, .ref b7, .ref b8, .ref b9, .ref b10, .ref b11, .ref b12, .ref b13, .ref b14, .ref b15, .ref b16, .ref b17, .int 0, .int (-1), .int (-1), .ref b21, .ref b22, .ref b23, .ref b24, .ref b25, .ref b26, .int 0, .ref b28, .ref b29, .ref b30, .ref b31, .ref b32, .ref b33, .ref b34, .ref b35, .ref b36, .int 0, .int 0, .int 0, .int 0, .int 0, .int 0, .int 0, .int 0, .int 0, .ref b46, .ref b47, .ref b48, .ref b49, .ref b50, .ref b51, .ref b52, .ref b53, .ref b54, .ref b55, .ref b56, .ref b57, .ref b58, .ref b59, .ref b60, .ref b61, .ref b62, .ref b63]))] (fun r u => r = 0 ∧ u = [(h0, .inr (12, [.int 0, .ref b1, .int 0, .int 0, .int 0, .int 0, .ref b6, .ref b7, .ref b8, .ref b9, .ref b10, .ref b11, .ref b12, .ref b13, .ref b14, .ref b15, .ref b16, .ref b17, .int 0, .int (-1), .int (-1), .ref b21, .ref b22, .ref b23, .ref b24, .ref b25, .ref b26, .int 0, .ref b28, .ref b29, .ref b30, .ref b31, .ref b32, .ref b33, .ref b34, .ref b35, .ref b36, .int 0, .int 0, .int 0, .int 0, .int 0, .int 0, .int 0, .int 0, .int 0, .ref b46, .ref b47, .ref b48, .ref b49, .ref b50, .ref b51, .ref b52, .ref b53, .ref b54, .ref b55, .ref b56, .ref b57, .ref b58, .ref b59, .ref b60, .ref b61, .ref b62, .ref b63]))]) := by
  refine MetI.of (own := RX12) rfl (by decide) (Nat.le_of_ble_eq_true rfl) ?_
  intro p e s m below meth c A ls args Q hQ X hr hin hW hl
  have hx := X.1
  have hb := X.2.1
  have hl : lv_has ls 4 [(0, .ref h0), (1, .int p0), (2, .int p1), (3, .int p2)] := hl
  refine lv_aload_n (pc := 0) hx hb dX12_down_0 rfl (lv_at hl 0 rfl) ?_
  refine lv_iconst (v := 0) (pc := 1) hx hb dX12_down_1 (by decide) ?_
  refine r_put (ws' := [(h0, .inr (12, [.int 0, .ref b1, .int 0, .int 0, .int 0, .int 0, .ref b6, .ref b7, .ref b8, .ref b9, .ref b10, .ref b11, .ref b12, .ref b13, .ref b14, .ref b15, .ref b16, .ref b17, .int 0, .int (-1), .int (-1), .ref b21, .ref b22, .ref b23, .ref b24, .ref b25, .ref b26, .int 0, .ref b28, .ref b29, .ref b30, .ref b31, .ref b32, .ref b33, .ref b34, .ref b35, .ref b36, .int 0, .int 0, .int 0, .int 0, .int 0, .int 0, .int 0, .int 0, .int 0, .ref b46, .ref b47, .ref b48, .ref b49, .ref b50, .ref b51, .ref b52, .ref b53, .ref b54, .ref b55, .ref b56, .ref b57, .ref b58, .ref b59, .ref b60, .ref b61, .ref b62, .ref b63]))]) X hW 0 ciX12 0 rfl (by decide) m_1231 rfl rfl rfl rfl (Nat.le_of_ble_eq_true rfl) rfl dX12_down_2 (fun H locs hW => ?_)
  refine lv_aload_n (pc := 5) hx hb dX12_down_5 rfl (lv_at hl 0 rfl) ?_
  refine lv_iload_n (pc := 6) hx hb dX12_down_6 rfl (lv_at hl 1 rfl) ?_
  refine lv_iload_n (pc := 7) hx hb dX12_down_7 rfl (lv_at hl 2 rfl) ?_
  refine c_Vi (pc := 8) (As := [.int p0, .int p1]) (rest := []) (wr := []) X hW 0 ciX12 rfl (C_X12_isLine l g h0 b1 b6 b7 b8 b9 b10 b11 b12 b13 b14 b15 b16 b17 b21 b22 b23 b24 b25 b26 b28 b29 b30 b31 b32 b33 b34 b35 b36 b46 b47 b48 b49 b50 b51 b52 b53 b54 b55 b56 b57 b58 b59 b60 b61 b62 b63 p0 p1) vX12_224 [0] [] rfl rfl rfl rfl rfl rfl hl.1 rfl (Nat.le_of_ble_eq_true rfl) ⟨Nat.le_of_ble_eq_true rfl, Nat.le_of_ble_eq_true rfl⟩ ⟨Nat.le_of_ble_eq_true rfl, Nat.le_of_ble_eq_true rfl⟩ dX12_down_8 (fun r1 u9 H locs hq hW => ?_)
  obtain ⟨rfl, rfl⟩ := hq
  have hW : WD g A s _ _ [(h0, .inr (12, [.int 0, .ref b1, .int 0, .int 0, .int 0, .int 0, .ref b6, .ref b7, .ref b8, .ref b9, .ref b10, .ref b11, .ref b12, .ref b13, .ref b14, .ref b15, .ref b16, .ref b17, .int 0, .int (-1), .int (-1), .ref b21, .ref b22, .ref b23, .ref b24, .ref b25, .ref b26, .int 0, .ref b28, .ref b29, .ref b30, .ref b31, .ref b32, .ref b33, .ref b34, .ref b35, .ref b36, .int 0, .int 0, .int 0, .int 0, .int 0, .int 0, .int 0, .int 0, .int 0, .ref b46, .ref b47, .ref b48, .ref b49, .ref b50, .ref b51, .ref b52, .ref b53, .ref b54, .ref b55, .ref b56, .ref b57, .ref b58, .ref b59, .ref b60, .ref b61, .ref b62, .ref b63]))] := hW
  refine lv_if_eq (tgt := 26) (pc := 11) hx hb dX12_down_11 rfl (fun c2 => ?_) (fun c2 => absurd (by decide) c2)
  refine lv_iconst (v := 0) (pc := 26) hx hb dX12_down_26 (by decide) ?_
  exact e_z X hQ hr hW (u := [(h0, .inr (12, [.int 0, .ref b1, .int 0, .int 0, .int 0, .int 0, .ref b6, .ref b7, .ref b8, .ref b9, .ref b10, .ref b11, .ref b12, .ref b13, .ref b14, .ref b15, .ref b16, .ref b17, .int 0, .int (-1), .int (-1), .ref b21, .ref b22, .ref b23, .ref b24, .ref b25, .ref b26, .int 0, .ref b28, .ref b29, .ref b30, .ref b31, .ref b32, .ref b33, .ref b34, .ref b35, .ref b36, .int 0, .int 0, .int 0, .int 0, .int 0, .int 0, .int 0, .int 0, .int 0, .ref b46, .ref b47, .ref b48, .ref b49, .ref b50, .ref b51, .ref b52, .ref b53, .ref b54, .ref b55, .ref b56, .ref b57, .ref b58, .ref b59, .ref b60, .ref b61, .ref b62, .ref b63]))]) rfl [0] rfl rfl (⟨rfl, rfl⟩) ⟨Nat.le_of_ble_eq_true rfl, Nat.le_of_ble_eq_true rfl⟩ dX12_down_27

set_option maxHeartbeats 4000000 in
set_option maxRecDepth 100000 in
theorem C_X12_may (l : Launch) (g : GG) (h0 b1 b6 b7 b8 b9 b10 b11 b12 b13 b14 b15 b16 b17 b21 b22 b23 b24 b25 b26 b28 b29 b30 b31 b32 b33 b34 b35 b36 b46 b47 b48 b49 b50 b51 b52 b53 b54 b55 b56 b57 b58 b59 b60 b61 b62 b63 : Nat) (p0 : Int32) (p1 : Int32) (p2 : Int32) (p3 : Int32) : MetI l g yX12_may cX12_may 5 (some .int) 1 0 0 [.ref h0, .int p0, .int p1, .int p2, .int p3] [(h0, .inr (12, [.int 0, .ref b1, .int 0, .int 0, .int 0, .int 0, .ref b6, .ref b7, .ref b8, .ref b9, .ref b10, .ref b11, .ref b12, .ref b13, .ref b14, .ref b15, .ref b16, .ref b17, .int 0, .int (-1), .int (-1), .ref b21, .ref b22, .ref b23, .ref b24, .ref b25, .ref b26, .int 0, .ref b28, .ref b29, .ref b30, .ref b31, .ref b32, .ref b33, .ref b34, .ref b35, .ref b36, .int 0, .int 0, .int 0, .int 0, .int 0, .int 0, .int 0, .int 0, .int 0, .ref b46, .ref b47, .ref b48, .ref b49, .ref b50, .ref b51, .ref b52, .ref b53, .ref b54, .ref b55, .ref b56, .ref b57, .ref b58, .ref b59, .ref b60, .ref b61, .ref b62, .ref b63]))] (fun r u => r = (-1) ∧ u = [(h0, .inr (12, [.int 0, .ref b1, .int 0, .int 0, .int 0, .int 0, .ref b6, .ref b7, .ref b8, .ref b9, .ref b10, .ref b11, .ref b12, .ref b13, .ref b14, .ref b15, .ref b16, .ref b17, .int 0, .int (-1), .int (-1), .ref b21, .ref b22, .ref b23, .ref b24, .ref b25, .ref b26, .int 0, .ref b28, .ref b29, .ref b30, .ref b31, .ref b32, .ref b33, .ref b34, .ref b35, .ref b36, .int 0, .int 0, .int 0, .int 0, .int 0, .int 0, .int 0, .int 0, .int 0, .ref b46, .ref b47, .ref b48, .ref b49, .ref b50, .ref b51, .ref b52, .ref b53, .ref b54, .ref b55, .ref b56, .ref b57, .ref b58, .ref b59, .ref b60, .ref b61, .ref b62, .ref b63]))]) := by
  refine MetI.of (own := RX12) rfl (by decide) (Nat.le_of_ble_eq_true rfl) ?_
  intro p e s m below meth c A ls args Q hQ X hr hin hW hl
  have hx := X.1
  have hb := X.2.1
  have hl : lv_has ls 5 [(0, .ref h0), (1, .int p0), (2, .int p1), (3, .int p2), (4, .int p3)] := hl
  refine lv_aload_n (pc := 0) hx hb dX12_may_0 rfl (lv_at hl 0 rfl) ?_
  refine lv_iconst (v := 0) (pc := 1) hx hb dX12_may_1 (by decide) ?_
  refine r_put (ws' := [(h0, .inr (12, [.int 0, .ref b1, .int 0, .int 0, .int 0, .int 0, .ref b6, .ref b7, .ref b8, .ref b9, .ref b10, .ref b11, .ref b12, .ref b13, .ref b14, .ref b15, .ref b16, .ref b17, .int 0, .int (-1), .int (-1), .ref b21, .ref b22, .ref b23, .ref b24, .ref b25, .ref b26, .int 0, .ref b28, .ref b29, .ref b30, .ref b31, .ref b32, .ref b33, .ref b34, .ref b35, .ref b36, .int 0, .int 0, .int 0, .int 0, .int 0, .int 0, .int 0, .int 0, .int 0, .ref b46, .ref b47, .ref b48, .ref b49, .ref b50, .ref b51, .ref b52, .ref b53, .ref b54, .ref b55, .ref b56, .ref b57, .ref b58, .ref b59, .ref b60, .ref b61, .ref b62, .ref b63]))]) X hW 0 ciX12 0 rfl (by decide) m_1231 rfl rfl rfl rfl (Nat.le_of_ble_eq_true rfl) rfl dX12_may_2 (fun H locs hW => ?_)
  refine lv_aload_n (pc := 5) hx hb dX12_may_5 rfl (lv_at hl 0 rfl) ?_
  refine lv_iload_n (pc := 6) hx hb dX12_may_6 rfl (lv_at hl 1 rfl) ?_
  refine c_Vi (pc := 7) (As := [.int p0]) (rest := []) (wr := []) X hW 0 ciX12 rfl (C_X12_isValley l g h0 b1 b6 b7 b8 b9 b10 b11 b12 b13 b14 b15 b16 b17 b21 b22 b23 b24 b25 b26 b28 b29 b30 b31 b32 b33 b34 b35 b36 b46 b47 b48 b49 b50 b51 b52 b53 b54 b55 b56 b57 b58 b59 b60 b61 b62 b63 p0) vX12_221 [0] [] rfl rfl rfl rfl rfl rfl hl.1 rfl (Nat.le_of_ble_eq_true rfl) ⟨Nat.le_of_ble_eq_true rfl, Nat.le_of_ble_eq_true rfl⟩ ⟨Nat.le_of_ble_eq_true rfl, Nat.le_of_ble_eq_true rfl⟩ dX12_may_7 (fun r1 u9 H locs hq hW => ?_)
  obtain ⟨rfl, rfl⟩ := hq
  have hW : WD g A s _ _ [(h0, .inr (12, [.int 0, .ref b1, .int 0, .int 0, .int 0, .int 0, .ref b6, .ref b7, .ref b8, .ref b9, .ref b10, .ref b11, .ref b12, .ref b13, .ref b14, .ref b15, .ref b16, .ref b17, .int 0, .int (-1), .int (-1), .ref b21, .ref b22, .ref b23, .ref b24, .ref b25, .ref b26, .int 0, .ref b28, .ref b29, .ref b30, .ref b31, .ref b32, .ref b33, .ref b34, .ref b35, .ref b36, .int 0, .int 0, .int 0, .int 0, .int 0, .int 0, .int 0, .int 0, .int 0, .ref b46, .ref b47, .ref b48, .ref b49, .ref b50, .ref b51, .ref b52, .ref b53, .ref b54, .ref b55, .ref b56, .ref b57, .ref b58, .ref b59, .ref b60, .ref b61, .ref b62, .ref b63]))] := hW
  refine lv_if_eq (tgt := 44) (pc := 10) hx hb dX12_may_10 rfl (fun c2 => ?_) (fun c2 => absurd (by decide) c2)
  refine lv_iconst (v := (-1)) (pc := 44) hx hb dX12_may_44 (by decide) ?_
  refine lv_goto (tgt := 65) (pc := 45) hx hb dX12_may_45 rfl ?_
  exact e_i X hQ hr hW (u := [(h0, .inr (12, [.int 0, .ref b1, .int 0, .int 0, .int 0, .int 0, .ref b6, .ref b7, .ref b8, .ref b9, .ref b10, .ref b11, .ref b12, .ref b13, .ref b14, .ref b15, .ref b16, .ref b17, .int 0, .int (-1), .int (-1), .ref b21, .ref b22, .ref b23, .ref b24, .ref b25, .ref b26, .int 0, .ref b28, .ref b29, .ref b30, .ref b31, .ref b32, .ref b33, .ref b34, .ref b35, .ref b36, .int 0, .int 0, .int 0, .int 0, .int 0, .int 0, .int 0, .int 0, .int 0, .ref b46, .ref b47, .ref b48, .ref b49, .ref b50, .ref b51, .ref b52, .ref b53, .ref b54, .ref b55, .ref b56, .ref b57, .ref b58, .ref b59, .ref b60, .ref b61, .ref b62, .ref b63]))]) [0] rfl rfl (⟨rfl, rfl⟩) ⟨Nat.le_of_ble_eq_true rfl, Nat.le_of_ble_eq_true rfl⟩ dX12_may_65

set_option maxHeartbeats 4000000 in
set_option maxRecDepth 100000 in
theorem C_X12_plan (l : Launch) (g : GG) (h0 b1 b6 b7 b8 b9 b10 b11 b12 b13 b14 b15 b16 b17 b21 b22 b23 b24 b25 b26 b28 b29 b30 b31 b32 b33 b34 b35 b36 b46 b47 b48 b49 b50 b51 b52 b53 b54 b55 b56 b57 b58 b59 b60 b61 b62 b63 : Nat) (p0 : Int32) : MetI l g yX12_plan cX12_plan 2 (some .int) 1 0 0 [.ref h0, .int p0] [(h0, .inr (12, [.int 0, .ref b1, .int 0, .int 0, .int 0, .int 0, .ref b6, .ref b7, .ref b8, .ref b9, .ref b10, .ref b11, .ref b12, .ref b13, .ref b14, .ref b15, .ref b16, .ref b17, .int 0, .int (-1), .int (-1), .ref b21, .ref b22, .ref b23, .ref b24, .ref b25, .ref b26, .int 0, .ref b28, .ref b29, .ref b30, .ref b31, .ref b32, .ref b33, .ref b34, .ref b35, .ref b36, .int 0, .int 0, .int 0, .int 0, .int 0, .int 0, .int 0, .int 0, .int 0, .ref b46, .ref b47, .ref b48, .ref b49, .ref b50, .ref b51, .ref b52, .ref b53, .ref b54, .ref b55, .ref b56, .ref b57, .ref b58, .ref b59, .ref b60, .ref b61, .ref b62, .ref b63]))] (fun r u => r = (-1) ∧ u = [(h0, .inr (12, [.int 0, .ref b1, .int 0, .int 0, .int 0, .int 0, .ref b6, .ref b7, .ref b8, .ref b9, .ref b10, .ref b11, .ref b12, .ref b13, .ref b14, .ref b15, .ref b16, .ref b17, .int 0, .int (-1), .int (-1), .ref b21, .ref b22, .ref b23, .ref b24, .ref b25, .ref b26, .int 0, .ref b28, .ref b29, .ref b30, .ref b31, .ref b32, .ref b33, .ref b34, .ref b35, .ref b36, .int 0, .int 0, .int 0, .int 0, .int 0, .int 0, .int 0, .int 0, .int 0, .ref b46, .ref b47, .ref b48, .ref b49, .ref b50, .ref b51, .ref b52, .ref b53, .ref b54, .ref b55, .ref b56, .ref b57, .ref b58, .ref b59, .ref b60, .ref b61, .ref b62, .ref b63]))]) := by
  refine MetI.of (own := RX12) rfl (by decide) (Nat.le_of_ble_eq_true rfl) ?_
  intro p e s m below meth c A ls args Q hQ X hr hin hW hl
  have hx := X.1
  have hb := X.2.1
  have hl : lv_has ls 2 [(0, .ref h0), (1, .int p0)] := hl
  refine lv_aload_n (pc := 0) hx hb dX12_plan_0 rfl (lv_at hl 0 rfl) ?_
  refine lv_iconst (v := 0) (pc := 1) hx hb dX12_plan_1 (by decide) ?_
  refine r_put (ws' := [(h0, .inr (12, [.int 0, .ref b1, .int 0, .int 0, .int 0, .int 0, .ref b6, .ref b7, .ref b8, .ref b9, .ref b10, .ref b11, .ref b12, .ref b13, .ref b14, .ref b15, .ref b16, .ref b17, .int 0, .int (-1), .int (-1), .ref b21, .ref b22, .ref b23, .ref b24, .ref b25, .ref b26, .int 0, .ref b28, .ref b29, .ref b30, .ref b31, .ref b32, .ref b33, .ref b34, .ref b35, .ref b36, .int 0, .int 0, .int 0, .int 0, .int 0, .int 0, .int 0, .int 0, .int 0, .ref b46, .ref b47, .ref b48, .ref b49, .ref b50, .ref b51, .ref b52, .ref b53, .ref b54, .ref b55, .ref b56, .ref b57, .ref b58, .ref b59, .ref b60, .ref b61, .ref b62, .ref b63]))]) X hW 0 ciX12 0 rfl (by decide) m_1231 rfl rfl rfl rfl (Nat.le_of_ble_eq_true rfl) rfl dX12_plan_2 (fun H locs hW => ?_)
  refine lv_aload_n (pc := 5) hx hb dX12_plan_5 rfl (lv_at hl 0 rfl) ?_
  refine r_get X hW 0 ciX12 27 rfl (by decide) m_1258 rfl rfl dX12_plan_6 ?_
  refine lv_bipush (v := 12) (pc := 9) hx hb dX12_plan_9 (by decide) ?_
  refine lv_icmp_eq (tgt := 22) (pc := 11) hx hb dX12_plan_11 rfl (fun c1 => absurd c1 (by decide)) (fun c1 => ?_)
  refine lv_aload_n (pc := 14) hx hb dX12_plan_14 rfl (lv_at hl 0 rfl) ?_
  refine lv_iload_n (pc := 15) hx hb dX12_plan_15 rfl (lv_at hl 1 rfl) ?_
  refine c_Vi (pc := 16) (As := [.int p0]) (rest := []) (wr := []) X hW 0 ciX12 rfl (C_X12_isValley l g h0 b1 b6 b7 b8 b9 b10 b11 b12 b13 b14 b15 b16 b17 b21 b22 b23 b24 b25 b26 b28 b29 b30 b31 b32 b33 b34 b35 b36 b46 b47 b48 b49 b50 b51 b52 b53 b54 b55 b56 b57 b58 b59 b60 b61 b62 b63 p0) vX12_221 [0] [] rfl rfl rfl rfl rfl rfl hl.1 rfl (Nat.le_of_ble_eq_true rfl) ⟨Nat.le_of_ble_eq_true rfl, Nat.le_of_ble_eq_true rfl⟩ ⟨Nat.le_of_ble_eq_true rfl, Nat.le_of_ble_eq_true rfl⟩ dX12_plan_16 (fun r2 u9 H locs hq hW => ?_)
  obtain ⟨rfl, rfl⟩ := hq
  have hW : WD g A s _ _ [(h0, .inr (12, [.int 0, .ref b1, .int 0, .int 0, .int 0, .int 0, .ref b6, .ref b7, .ref b8, .ref b9, .ref b10, .ref b11, .ref b12, .ref b13, .ref b14, .ref b15, .ref b16, .ref b17, .int 0, .int (-1), .int (-1), .ref b21, .ref b22, .ref b23, .ref b24, .ref b25, .ref b26, .int 0, .ref b28, .ref b29, .ref b30, .ref b31, .ref b32, .ref b33, .ref b34, .ref b35, .ref b36, .int 0, .int 0, .int 0, .int 0, .int 0, .int 0, .int 0, .int 0, .int 0, .ref b46, .ref b47, .ref b48, .ref b49, .ref b50, .ref b51, .ref b52, .ref b53, .ref b54, .ref b55, .ref b56, .ref b57, .ref b58, .ref b59, .ref b60, .ref b61, .ref b62, .ref b63]))] := hW
  refine lv_if_ne (tgt := 24) (pc := 19) hx hb dX12_plan_19 rfl (fun c3 => absurd (by decide) c3) (fun c3 => ?_)
  refine lv_iconst (v := (-1)) (pc := 22) hx hb dX12_plan_22 (by decide) ?_
  exact e_i X hQ hr hW (u := [(h0, .inr (12, [.int 0, .ref b1, .int 0, .int 0, .int 0, .int 0, .ref b6, .ref b7, .ref b8, .ref b9, .ref b10, .ref b11, .ref b12, .ref b13, .ref b14, .ref b15, .ref b16, .ref b17, .int 0, .int (-1), .int (-1), .ref b21, .ref b22, .ref b23, .ref b24, .ref b25, .ref b26, .int 0, .ref b28, .ref b29, .ref b30, .ref b31, .ref b32, .ref b33, .ref b34, .ref b35, .ref b36, .int 0, .int 0, .int 0, .int 0, .int 0, .int 0, .int 0, .int 0, .int 0, .ref b46, .ref b47, .ref b48, .ref b49, .ref b50, .ref b51, .ref b52, .ref b53, .ref b54, .ref b55, .ref b56, .ref b57, .ref b58, .ref b59, .ref b60, .ref b61, .ref b62, .ref b63]))]) [0] rfl rfl (⟨rfl, rfl⟩) ⟨Nat.le_of_ble_eq_true rfl, Nat.le_of_ble_eq_true rfl⟩ dX12_plan_23

set_option maxHeartbeats 4000000 in
set_option maxRecDepth 100000 in
theorem C_X12_call (l : Launch) (g : GG) (h0 b1 b6 b7 b8 b9 b10 b11 b12 b13 b14 b15 b16 b17 b21 b22 b23 b24 b25 b26 b28 b29 b30 b31 b32 b33 b34 b35 b36 b46 b47 b48 b49 b50 b51 b52 b53 b54 b55 b56 b57 b58 b59 b60 b61 b62 b63 : Nat) (p0 : Int32) (p1 : Int32) (p2 : Int32) (p3 : Int32) (p4 : Int32) : MetI l g yX12_call cX12_call 7 (some .int) 1 0 0 [.ref h0, .int p0, .int p1, .int p2, .int p3, .int p4] [(h0, .inr (12, [.int 0, .ref b1, .int 0, .int 0, .int 0, .int 0, .ref b6, .ref b7, .ref b8, .ref b9, .ref b10, .ref b11, .ref b12, .ref b13, .ref b14, .ref b15, .ref b16, .ref b17, .int 0, .int (-1), .int (-1), .ref b21, .ref b22, .ref b23, .ref b24, .ref b25, .ref b26, .int 0, .ref b28, .ref b29, .ref b30, .ref b31, .ref b32, .ref b33, .ref b34, .ref b35, .ref b36, .int 0, .int 0, .int 0, .int 0, .int 0, .int 0, .int 0, .int 0, .int 0, .ref b46, .ref b47, .ref b48, .ref b49, .ref b50, .ref b51, .ref b52, .ref b53, .ref b54, .ref b55, .ref b56, .ref b57, .ref b58, .ref b59, .ref b60, .ref b61, .ref b62, .ref b63]))] (fun r u => r = (-1) ∧ u = [(h0, .inr (12, [.int 0, .ref b1, .int 0, .int 0, .int 0, .int 0, .ref b6, .ref b7, .ref b8, .ref b9, .ref b10, .ref b11, .ref b12, .ref b13, .ref b14, .ref b15, .ref b16, .ref b17, .int 0, .int (-1), .int (-1), .ref b21, .ref b22, .ref b23, .ref b24, .ref b25, .ref b26, .int 0, .ref b28, .ref b29, .ref b30, .ref b31, .ref b32, .ref b33, .ref b34, .ref b35, .ref b36, .int 0, .int 0, .int 0, .int 0, .int 0, .int 0, .int 0, .int 0, .int 0, .ref b46, .ref b47, .ref b48, .ref b49, .ref b50, .ref b51, .ref b52, .ref b53, .ref b54, .ref b55, .ref b56, .ref b57, .ref b58, .ref b59, .ref b60, .ref b61, .ref b62, .ref b63]))]) := by
  refine MetI.of (own := RX12) rfl (by decide) (Nat.le_of_ble_eq_true rfl) ?_
  intro p e s m below meth c A ls args Q hQ X hr hin hW hl
  have hx := X.1
  have hb := X.2.1
  have hl : lv_has ls 7 [(0, .ref h0), (1, .int p0), (2, .int p1), (3, .int p2), (4, .int p3), (5, .int p4)] := hl
  refine lv_aload_n (pc := 0) hx hb dX12_call_0 rfl (lv_at hl 0 rfl) ?_
  refine lv_iconst (v := 0) (pc := 1) hx hb dX12_call_1 (by decide) ?_
  refine r_put (ws' := [(h0, .inr (12, [.int 0, .ref b1, .int 0, .int 0, .int 0, .int 0, .ref b6, .ref b7, .ref b8, .ref b9, .ref b10, .ref b11, .ref b12, .ref b13, .ref b14, .ref b15, .ref b16, .ref b17, .int 0, .int (-1), .int (-1), .ref b21, .ref b22, .ref b23, .ref b24, .ref b25, .ref b26, .int 0, .ref b28, .ref b29, .ref b30, .ref b31, .ref b32, .ref b33, .ref b34, .ref b35, .ref b36, .int 0, .int 0, .int 0, .int 0, .int 0, .int 0, .int 0, .int 0, .int 0, .ref b46, .ref b47, .ref b48, .ref b49, .ref b50, .ref b51, .ref b52, .ref b53, .ref b54, .ref b55, .ref b56, .ref b57, .ref b58, .ref b59, .ref b60, .ref b61, .ref b62, .ref b63]))]) X hW 0 ciX12 0 rfl (by decide) m_1231 rfl rfl rfl rfl (Nat.le_of_ble_eq_true rfl) rfl dX12_call_2 (fun H locs hW => ?_)
  refine lv_aload_n (pc := 5) hx hb dX12_call_5 rfl (lv_at hl 0 rfl) ?_
  refine lv_iload_n (pc := 6) hx hb dX12_call_6 rfl (lv_at hl 1 rfl) ?_
  refine c_Vi (pc := 7) (As := [.int p0]) (rest := []) (wr := []) X hW 0 ciX12 rfl (C_X12_isPlan l g h0 b1 b6 b7 b8 b9 b10 b11 b12 b13 b14 b15 b16 b17 b21 b22 b23 b24 b25 b26 b28 b29 b30 b31 b32 b33 b34 b35 b36 b46 b47 b48 b49 b50 b51 b52 b53 b54 b55 b56 b57 b58 b59 b60 b61 b62 b63 p0) vX12_247 [0] [] rfl rfl rfl rfl rfl rfl hl.1 rfl (Nat.le_of_ble_eq_true rfl) ⟨Nat.le_of_ble_eq_true rfl, Nat.le_of_ble_eq_true rfl⟩ ⟨Nat.le_of_ble_eq_true rfl, Nat.le_of_ble_eq_true rfl⟩ dX12_call_7 (fun r1 u9 H locs hq hW => ?_)
  obtain ⟨rfl, rfl⟩ := hq
  have hW : WD g A s _ _ [(h0, .inr (12, [.int 0, .ref b1, .int 0, .int 0, .int 0, .int 0, .ref b6, .ref b7, .ref b8, .ref b9, .ref b10, .ref b11, .ref b12, .ref b13, .ref b14, .ref b15, .ref b16, .ref b17, .int 0, .int (-1), .int (-1), .ref b21, .ref b22, .ref b23, .ref b24, .ref b25, .ref b26, .int 0, .ref b28, .ref b29, .ref b30, .ref b31, .ref b32, .ref b33, .ref b34, .ref b35, .ref b36, .int 0, .int 0, .int 0, .int 0, .int 0, .int 0, .int 0, .int 0, .int 0, .ref b46, .ref b47, .ref b48, .ref b49, .ref b50, .ref b51, .ref b52, .ref b53, .ref b54, .ref b55, .ref b56, .ref b57, .ref b58, .ref b59, .ref b60, .ref b61, .ref b62, .ref b63]))] := hW
  refine lv_if_eq (tgt := 55) (pc := 10) hx hb dX12_call_10 rfl (fun c2 => ?_) (fun c2 => absurd (by decide) c2)
  refine lv_iconst (v := (-1)) (pc := 55) hx hb dX12_call_55 (by decide) ?_
  exact e_i X hQ hr hW (u := [(h0, .inr (12, [.int 0, .ref b1, .int 0, .int 0, .int 0, .int 0, .ref b6, .ref b7, .ref b8, .ref b9, .ref b10, .ref b11, .ref b12, .ref b13, .ref b14, .ref b15, .ref b16, .ref b17, .int 0, .int (-1), .int (-1), .ref b21, .ref b22, .ref b23, .ref b24, .ref b25, .ref b26, .int 0, .ref b28, .ref b29, .ref b30, .ref b31, .ref b32, .ref b33, .ref b34, .ref b35, .ref b36, .int 0, .int 0, .int 0, .int 0, .int 0, .int 0, .int 0, .int 0, .int 0, .ref b46, .ref b47, .ref b48, .ref b49, .ref b50, .ref b51, .ref b52, .ref b53, .ref b54, .ref b55, .ref b56, .ref b57, .ref b58, .ref b59, .ref b60, .ref b61, .ref b62, .ref b63]))]) [0] rfl rfl (⟨rfl, rfl⟩) ⟨Nat.le_of_ble_eq_true rfl, Nat.le_of_ble_eq_true rfl⟩ dX12_call_56

set_option maxHeartbeats 4000000 in
set_option maxRecDepth 100000 in
theorem C_X12_lawful (l : Launch) (g : GG) (h0 b1 b6 b7 b8 b9 b10 b11 b12 b13 b14 b15 b16 b17 b21 b22 b23 b24 b25 b26 b28 b29 b30 b31 b32 b33 b34 b35 b36 b46 b47 b48 b49 b50 b51 b52 b53 b54 b55 b56 b57 b58 b59 b60 b61 b62 b63 : Nat) (p0 : Int32) (p1 : Int32) : MetI l g yX12_lawful cX12_lawful 3 (some .int) 2 0 0 [.ref h0, .int p0, .int p1] [(h0, .inr (12, [.int 0, .ref b1, .int 0, .int 0, .int 0, .int 0, .ref b6, .ref b7, .ref b8, .ref b9, .ref b10, .ref b11, .ref b12, .ref b13, .ref b14, .ref b15, .ref b16, .ref b17, .int 0, .int (-1), .int (-1), .ref b21, .ref b22, .ref b23, .ref b24, .ref b25, .ref b26, .int 0, .ref b28, .ref b29, .ref b30, .ref b31, .ref b32, .ref b33, .ref b34, .ref b35, .ref b36, .int 0, .int 0, .int 0, .int 0, .int 0, .int 0, .int 0, .int 0, .int 0, .ref b46, .ref b47, .ref b48, .ref b49, .ref b50, .ref b51, .ref b52, .ref b53, .ref b54, .ref b55, .ref b56, .ref b57, .ref b58, .ref b59, .ref b60, .ref b61, .ref b62, .ref b63]))] (fun r u => r = (-1) ∧ u = [(h0, .inr (12, [.int 0, .ref b1, .int 0, .int 0, .int 0, .int 0, .ref b6, .ref b7, .ref b8, .ref b9, .ref b10, .ref b11, .ref b12, .ref b13, .ref b14, .ref b15, .ref b16, .ref b17, .int 0, .int (-1), .int (-1), .ref b21, .ref b22, .ref b23, .ref b24, .ref b25, .ref b26, .int 0, .ref b28, .ref b29, .ref b30, .ref b31, .ref b32, .ref b33, .ref b34, .ref b35, .ref b36, .int 0, .int 0, .int 0, .int 0, .int 0, .int 0, .int 0, .int 0, .int 0, .ref b46, .ref b47, .ref b48, .ref b49, .ref b50, .ref b51, .ref b52, .ref b53, .ref b54, .ref b55, .ref b56, .ref b57, .ref b58, .ref b59, .ref b60, .ref b61, .ref b62, .ref b63]))]) := by
  refine MetI.of (own := RX12) rfl (by decide) (Nat.le_of_ble_eq_true rfl) ?_
  intro p e s m below meth c A ls args Q hQ X hr hin hW hl
  have hx := X.1
  have hb := X.2.1
  have hl : lv_has ls 3 [(0, .ref h0), (1, .int p0), (2, .int p1)] := hl
  refine lv_aload_n (pc := 0) hx hb dX12_lawful_0 rfl (lv_at hl 0 rfl) ?_
  refine lv_iconst (v := 0) (pc := 1) hx hb dX12_lawful_1 (by decide) ?_
  refine r_put (ws' := [(h0, .inr (12, [.int 0, .ref b1, .int 0, .int 0, .int 0, .int 0, .ref b6, .ref b7, .ref b8, .ref b9, .ref b10, .ref b11, .ref b12, .ref b13, .ref b14, .ref b15, .ref b16, .ref b17, .int 0, .int (-1), .int (-1), .ref b21, .ref b22, .ref b23, .ref b24, .ref b25, .ref b26, .int 0, .ref b28, .ref b29, .ref b30, .ref b31, .ref b32, .ref b33, .ref b34, .ref b35, .ref b36, .int 0, .int 0, .int 0, .int 0, .int 0, .int 0, .int 0, .int 0, .int 0, .ref b46, .ref b47, .ref b48, .ref b49, .ref b50, .ref b51, .ref b52, .ref b53, .ref b54, .ref b55, .ref b56, .ref b57, .ref b58, .ref b59, .ref b60, .ref b61, .ref b62, .ref b63]))]) X hW 0 ciX12 0 rfl (by decide) m_1231 rfl rfl rfl rfl (Nat.le_of_ble_eq_true rfl) rfl dX12_lawful_2 (fun H locs hW => ?_)
  refine lv_aload_n (pc := 5) hx hb dX12_lawful_5 rfl (lv_at hl 0 rfl) ?_
  refine lv_iload_n (pc := 6) hx hb dX12_lawful_6 rfl (lv_at hl 1 rfl) ?_
  refine lv_iload_n (pc := 7) hx hb dX12_lawful_7 rfl (lv_at hl 2 rfl) ?_
  refine c_Vi (pc := 8) (As := [.int p0, .int p1]) (rest := []) (wr := []) X hW 0 ciX12 rfl (C_X12_isCall l g h0 b1 b6 b7 b8 b9 b10 b11 b12 b13 b14 b15 b16 b17 b21 b22 b23 b24 b25 b26 b28 b29 b30 b31 b32 b33 b34 b35 b36 b46 b47 b48 b49 b50 b51 b52 b53 b54 b55 b56 b57 b58 b59 b60 b61 b62 b63 p0 p1) vX12_254 [0] [] rfl rfl rfl rfl rfl rfl hl.1 rfl (Nat.le_of_ble_eq_true rfl) ⟨Nat.le_of_ble_eq_true rfl, Nat.le_of_ble_eq_true rfl⟩ ⟨Nat.le_of_ble_eq_true rfl, Nat.le_of_ble_eq_true rfl⟩ dX12_lawful_8 (fun r1 u9 H locs hq hW => ?_)
  obtain ⟨rfl, rfl⟩ := hq
  have hW : WD g A s _ _ [(h0, .inr (12, [.int 0, .ref b1, .int 0, .int 0, .int 0, .int 0, .ref b6, .ref b7, .ref b8, .ref b9, .ref b10, .ref b11, .ref b12, .ref b13, .ref b14, .ref b15, .ref b16, .ref b17, .int 0, .int (-1), .int (-1), .ref b21, .ref b22, .ref b23, .ref b24, .ref b25, .ref b26, .int 0, .ref b28, .ref b29, .ref b30, .ref b31, .ref b32, .ref b33, .ref b34, .ref b35, .ref b36, .int 0, .int 0, .int 0, .int 0, .int 0, .int 0, .int 0, .int 0, .int 0, .ref b46, .ref b47, .ref b48, .ref b49, .ref b50, .ref b51, .ref b52, .ref b53, .ref b54, .ref b55, .ref b56, .ref b57, .ref b58, .ref b59, .ref b60, .ref b61, .ref b62, .ref b63]))] := hW
  refine lv_if_ne (tgt := 16) (pc := 11) hx hb dX12_lawful_11 rfl (fun c2 => absurd (by decide) c2) (fun c2 => ?_)
  refine lv_iconst (v := (-1)) (pc := 14) hx hb dX12_lawful_14 (by decide) ?_
  exact e_i X hQ hr hW (u := [(h0, .inr (12, [.int 0, .ref b1, .int 0, .int 0, .int 0, .int 0, .ref b6, .ref b7, .ref b8, .ref b9, .ref b10, .ref b11, .ref b12, .ref b13, .ref b14, .ref b15, .ref b16, .ref b17, .int 0, .int (-1), .int (-1), .ref b21, .ref b22, .ref b23, .ref b24, .ref b25, .ref b26, .int 0, .ref b28, .ref b29, .ref b30, .ref b31, .ref b32, .ref b33, .ref b34, .ref b35, .ref b36, .int 0, .int 0, .int 0, .int 0, .int 0, .int 0, .int 0, .int 0, .int 0, .ref b46, .ref b47, .ref b48, .ref b49, .ref b50, .ref b51, .ref b52, .ref b53, .ref b54, .ref b55, .ref b56, .ref b57, .ref b58, .ref b59, .ref b60, .ref b61, .ref b62, .ref b63]))]) [0] rfl rfl (⟨rfl, rfl⟩) ⟨Nat.le_of_ble_eq_true rfl, Nat.le_of_ble_eq_true rfl⟩ dX12_lawful_15

set_option maxHeartbeats 4000000 in
set_option maxRecDepth 100000 in
theorem C_X12_unlawful (l : Launch) (g : GG) (h0 b1 b6 b7 b8 b9 b10 b11 b12 b13 b14 b15 b16 b17 b21 b22 b23 b24 b25 b26 b28 b29 b30 b31 b32 b33 b34 b35 b36 b46 b47 b48 b49 b50 b51 b52 b53 b54 b55 b56 b57 b58 b59 b60 b61 b62 b63 : Nat) (p0 : Int32) : MetI l g yX12_unlawful cX12_unlawful 3 (some .int) 1 0 0 [.ref h0, .int p0] [(h0, .inr (12, [.int 0, .ref b1, .int 0, .int 0, .int 0, .int 0, .ref b6, .ref b7, .ref b8, .ref b9, .ref b10, .ref b11, .ref b12, .ref b13, .ref b14, .ref b15, .ref b16, .ref b17, .int 0, .int (-1), .int (-1), .ref b21, .ref b22, .ref b23, .ref b24, .ref b25, .ref b26, .int 0, .ref b28, .ref b29, .ref b30, .ref b31, .ref b32, .ref b33, .ref b34, .ref b35, .ref b36, .int 0, .int 0, .int 0, .int 0, .int 0, .int 0, .int 0, .int 0, .int 0, .ref b46, .ref b47, .ref b48, .ref b49, .ref b50, .ref b51, .ref b52, .ref b53, .ref b54, .ref b55, .ref b56, .ref b57, .ref b58, .ref b59, .ref b60, .ref b61, .ref b62, .ref b63]))] (fun r u => r = (-1) ∧ u = [(h0, .inr (12, [.int 0, .ref b1, .int 0, .int 0, .int 0, .int 0, .ref b6, .ref b7, .ref b8, .ref b9, .ref b10, .ref b11, .ref b12, .ref b13, .ref b14, .ref b15, .ref b16, .ref b17, .int 0, .int (-1), .int (-1), .ref b21, .ref b22, .ref b23, .ref b24, .ref b25, .ref b26, .int 0, .ref b28, .ref b29, .ref b30, .ref b31, .ref b32, .ref b33, .ref b34, .ref b35, .ref b36, .int 0, .int 0, .int 0, .int 0, .int 0, .int 0, .int 0, .int 0, .int 0, .ref b46, .ref b47, .ref b48, .ref b49, .ref b50, .ref b51, .ref b52, .ref b53, .ref b54, .ref b55, .ref b56, .ref b57, .ref b58, .ref b59, .ref b60, .ref b61, .ref b62, .ref b63]))]) := by
  refine MetI.of (own := RX12) rfl (by decide) (Nat.le_of_ble_eq_true rfl) ?_
  intro p e s m below meth c A ls args Q hQ X hr hin hW hl
  have hx := X.1
  have hb := X.2.1
  have hl : lv_has ls 3 [(0, .ref h0), (1, .int p0)] := hl
  refine lv_aload_n (pc := 0) hx hb dX12_unlawful_0 rfl (lv_at hl 0 rfl) ?_
  refine lv_iconst (v := 0) (pc := 1) hx hb dX12_unlawful_1 (by decide) ?_
  refine r_put (ws' := [(h0, .inr (12, [.int 0, .ref b1, .int 0, .int 0, .int 0, .int 0, .ref b6, .ref b7, .ref b8, .ref b9, .ref b10, .ref b11, .ref b12, .ref b13, .ref b14, .ref b15, .ref b16, .ref b17, .int 0, .int (-1), .int (-1), .ref b21, .ref b22, .ref b23, .ref b24, .ref b25, .ref b26, .int 0, .ref b28, .ref b29, .ref b30, .ref b31, .ref b32, .ref b33, .ref b34, .ref b35, .ref b36, .int 0, .int 0, .int 0, .int 0, .int 0, .int 0, .int 0, .int 0, .int 0, .ref b46, .ref b47, .ref b48, .ref b49, .ref b50, .ref b51, .ref b52, .ref b53, .ref b54, .ref b55, .ref b56, .ref b57, .ref b58, .ref b59, .ref b60, .ref b61, .ref b62, .ref b63]))]) X hW 0 ciX12 0 rfl (by decide) m_1231 rfl rfl rfl rfl (Nat.le_of_ble_eq_true rfl) rfl dX12_unlawful_2 (fun H locs hW => ?_)
  refine lv_aload_n (pc := 5) hx hb dX12_unlawful_5 rfl (lv_at hl 0 rfl) ?_
  refine lv_iload_n (pc := 6) hx hb dX12_unlawful_6 rfl (lv_at hl 1 rfl) ?_
  refine c_Vi (pc := 7) (As := [.int p0]) (rest := []) (wr := []) X hW 0 ciX12 rfl (C_X12_isPlan l g h0 b1 b6 b7 b8 b9 b10 b11 b12 b13 b14 b15 b16 b17 b21 b22 b23 b24 b25 b26 b28 b29 b30 b31 b32 b33 b34 b35 b36 b46 b47 b48 b49 b50 b51 b52 b53 b54 b55 b56 b57 b58 b59 b60 b61 b62 b63 p0) vX12_247 [0] [] rfl rfl rfl rfl rfl rfl hl.1 rfl (Nat.le_of_ble_eq_true rfl) ⟨Nat.le_of_ble_eq_true rfl, Nat.le_of_ble_eq_true rfl⟩ ⟨Nat.le_of_ble_eq_true rfl, Nat.le_of_ble_eq_true rfl⟩ dX12_unlawful_7 (fun r1 u9 H locs hq hW => ?_)
  obtain ⟨rfl, rfl⟩ := hq
  have hW : WD g A s _ _ [(h0, .inr (12, [.int 0, .ref b1, .int 0, .int 0, .int 0, .int 0, .ref b6, .ref b7, .ref b8, .ref b9, .ref b10, .ref b11, .ref b12, .ref b13, .ref b14, .ref b15, .ref b16, .ref b17, .int 0, .int (-1), .int (-1), .ref b21, .ref b22, .ref b23, .ref b24, .ref b25, .ref b26, .int 0, .ref b28, .ref b29, .ref b30, .ref b31, .ref b32, .ref b33, .ref b34, .ref b35, .ref b36, .int 0, .int 0, .int 0, .int 0, .int 0, .int 0, .int 0, .int 0, .int 0, .ref b46, .ref b47, .ref b48, .ref b49, .ref b50, .ref b51, .ref b52, .ref b53, .ref b54, .ref b55, .ref b56, .ref b57, .ref b58, .ref b59, .ref b60, .ref b61, .ref b62, .ref b63]))] := hW
  refine lv_if_ne (tgt := 15) (pc := 10) hx hb dX12_unlawful_10 rfl (fun c2 => absurd (by decide) c2) (fun c2 => ?_)
  refine lv_iconst (v := (-1)) (pc := 13) hx hb dX12_unlawful_13 (by decide) ?_
  exact e_i X hQ hr hW (u := [(h0, .inr (12, [.int 0, .ref b1, .int 0, .int 0, .int 0, .int 0, .ref b6, .ref b7, .ref b8, .ref b9, .ref b10, .ref b11, .ref b12, .ref b13, .ref b14, .ref b15, .ref b16, .ref b17, .int 0, .int (-1), .int (-1), .ref b21, .ref b22, .ref b23, .ref b24, .ref b25, .ref b26, .int 0, .ref b28, .ref b29, .ref b30, .ref b31, .ref b32, .ref b33, .ref b34, .ref b35, .ref b36, .int 0, .int 0, .int 0, .int 0, .int 0, .int 0, .int 0, .int 0, .int 0, .ref b46, .ref b47, .ref b48, .ref b49, .ref b50, .ref b51, .ref b52, .ref b53, .ref b54, .ref b55, .ref b56, .ref b57, .ref b58, .ref b59, .ref b60, .ref b61, .ref b62, .ref b63]))]) [0] rfl rfl (⟨rfl, rfl⟩) ⟨Nat.le_of_ble_eq_true rfl, Nat.le_of_ble_eq_true rfl⟩ dX12_unlawful_14

set_option maxHeartbeats 4000000 in
set_option maxRecDepth 100000 in
theorem C_X12_known (l : Launch) (g : GG) (h0 b1 b6 b7 b8 b9 b10 b11 b12 b13 b14 b15 b16 b17 b21 b22 b23 b24 b25 b26 b28 b29 b30 b31 b32 b33 b34 b35 b36 b46 b47 b48 b49 b50 b51 b52 b53 b54 b55 b56 b57 b58 b59 b60 b61 b62 b63 : Nat) (p0 : Int32) (p1 : Int32) (p2 : Int32) : MetI l g yX12_known cX12_known 4 (some .int) 1 0 0 [.ref h0, .int p0, .int p1, .int p2] [(h0, .inr (12, [.int 0, .ref b1, .int 0, .int 0, .int 0, .int 0, .ref b6, .ref b7, .ref b8, .ref b9, .ref b10, .ref b11, .ref b12, .ref b13, .ref b14, .ref b15, .ref b16, .ref b17, .int 0, .int (-1), .int (-1), .ref b21, .ref b22, .ref b23, .ref b24, .ref b25, .ref b26, .int 0, .ref b28, .ref b29, .ref b30, .ref b31, .ref b32, .ref b33, .ref b34, .ref b35, .ref b36, .int 0, .int 0, .int 0, .int 0, .int 0, .int 0, .int 0, .int 0, .int 0, .ref b46, .ref b47, .ref b48, .ref b49, .ref b50, .ref b51, .ref b52, .ref b53, .ref b54, .ref b55, .ref b56, .ref b57, .ref b58, .ref b59, .ref b60, .ref b61, .ref b62, .ref b63]))] (fun r u => r = (-1) ∧ u = [(h0, .inr (12, [.int 0, .ref b1, .int 0, .int 0, .int 0, .int 0, .ref b6, .ref b7, .ref b8, .ref b9, .ref b10, .ref b11, .ref b12, .ref b13, .ref b14, .ref b15, .ref b16, .ref b17, .int 0, .int (-1), .int (-1), .ref b21, .ref b22, .ref b23, .ref b24, .ref b25, .ref b26, .int 0, .ref b28, .ref b29, .ref b30, .ref b31, .ref b32, .ref b33, .ref b34, .ref b35, .ref b36, .int 0, .int 0, .int 0, .int 0, .int 0, .int 0, .int 0, .int 0, .int 0, .ref b46, .ref b47, .ref b48, .ref b49, .ref b50, .ref b51, .ref b52, .ref b53, .ref b54, .ref b55, .ref b56, .ref b57, .ref b58, .ref b59, .ref b60, .ref b61, .ref b62, .ref b63]))]) := by
  refine MetI.of (own := RX12) rfl (by decide) (Nat.le_of_ble_eq_true rfl) ?_
  intro p e s m below meth c A ls args Q hQ X hr hin hW hl
  have hx := X.1
  have hb := X.2.1
  have hl : lv_has ls 4 [(0, .ref h0), (1, .int p0), (2, .int p1), (3, .int p2)] := hl
  refine lv_aload_n (pc := 0) hx hb dX12_known_0 rfl (lv_at hl 0 rfl) ?_
  refine lv_iconst (v := 0) (pc := 1) hx hb dX12_known_1 (by decide) ?_
  refine r_put (ws' := [(h0, .inr (12, [.int 0, .ref b1, .int 0, .int 0, .int 0, .int 0, .ref b6, .ref b7, .ref b8, .ref b9, .ref b10, .ref b11, .ref b12, .ref b13, .ref b14, .ref b15, .ref b16, .ref b17, .int 0, .int (-1), .int (-1), .ref b21, .ref b22, .ref b23, .ref b24, .ref b25, .ref b26, .int 0, .ref b28, .ref b29, .ref b30, .ref b31, .ref b32, .ref b33, .ref b34, .ref b35, .ref b36, .int 0, .int 0, .int 0, .int 0, .int 0, .int 0, .int 0, .int 0, .int 0, .ref b46, .ref b47, .ref b48, .ref b49, .ref b50, .ref b51, .ref b52, .ref b53, .ref b54, .ref b55, .ref b56, .ref b57, .ref b58, .ref b59, .ref b60, .ref b61, .ref b62, .ref b63]))]) X hW 0 ciX12 0 rfl (by decide) m_1231 rfl rfl rfl rfl (Nat.le_of_ble_eq_true rfl) rfl dX12_known_2 (fun H locs hW => ?_)
  refine lv_aload_n (pc := 5) hx hb dX12_known_5 rfl (lv_at hl 0 rfl) ?_
  refine lv_iload_n (pc := 6) hx hb dX12_known_6 rfl (lv_at hl 1 rfl) ?_
  refine c_Vi (pc := 7) (As := [.int p0]) (rest := []) (wr := []) X hW 0 ciX12 rfl (C_X12_isPlan l g h0 b1 b6 b7 b8 b9 b10 b11 b12 b13 b14 b15 b16 b17 b21 b22 b23 b24 b25 b26 b28 b29 b30 b31 b32 b33 b34 b35 b36 b46 b47 b48 b49 b50 b51 b52 b53 b54 b55 b56 b57 b58 b59 b60 b61 b62 b63 p0) vX12_247 [0] [] rfl rfl rfl rfl rfl rfl hl.1 rfl (Nat.le_of_ble_eq_true rfl) ⟨Nat.le_of_ble_eq_true rfl, Nat.le_of_ble_eq_true rfl⟩ ⟨Nat.le_of_ble_eq_true rfl, Nat.le_of_ble_eq_true rfl⟩ dX12_known_7 (fun r1 u9 H locs hq hW => ?_)
  obtain ⟨rfl, rfl⟩ := hq
  have hW : WD g A s _ _ [(h0, .inr (12, [.int 0, .ref b1, .int 0, .int 0, .int 0, .int 0, .ref b6, .ref b7, .ref b8, .ref b9, .ref b10, .ref b11, .ref b12, .ref b13, .ref b14, .ref b15, .ref b16, .ref b17, .int 0, .int (-1), .int (-1), .ref b21, .ref b22, .ref b23, .ref b24, .ref b25, .ref b26, .int 0, .ref b28, .ref b29, .ref b30, .ref b31, .ref b32, .ref b33, .ref b34, .ref b35, .ref b36, .int 0, .int 0, .int 0, .int 0, .int 0, .int 0, .int 0, .int 0, .int 0, .ref b46, .ref b47, .ref b48, .ref b49, .ref b50, .ref b51, .ref b52, .ref b53, .ref b54, .ref b55, .ref b56, .ref b57, .ref b58, .ref b59, .ref b60, .ref b61, .ref b62, .ref b63]))] := hW
  refine lv_if_eq (tgt := 37) (pc := 10) hx hb dX12_known_10 rfl (fun c2 => ?_) (fun c2 => absurd (by decide) c2)
  refine lv_iconst (v := (-1)) (pc := 37) hx hb dX12_known_37 (by decide) ?_
  exact e_i X hQ hr hW (u := [(h0, .inr (12, [.int 0, .ref b1, .int 0, .int 0, .int 0, .int 0, .ref b6, .ref b7, .ref b8, .ref b9, .ref b10, .ref b11, .ref b12, .ref b13, .ref b14, .ref b15, .ref b16, .ref b17, .int 0, .int (-1), .int (-1), .ref b21, .ref b22, .ref b23, .ref b24, .ref b25, .ref b26, .int 0, .ref b28, .ref b29, .ref b30, .ref b31, .ref b32, .ref b33, .ref b34, .ref b35, .ref b36, .int 0, .int 0, .int 0, .int 0, .int 0, .int 0, .int 0, .int 0, .int 0, .ref b46, .ref b47, .ref b48, .ref b49, .ref b50, .ref b51, .ref b52, .ref b53, .ref b54, .ref b55, .ref b56, .ref b57, .ref b58, .ref b59, .ref b60, .ref b61, .ref b62, .ref b63]))]) [0] rfl rfl (⟨rfl, rfl⟩) ⟨Nat.le_of_ble_eq_true rfl, Nat.le_of_ble_eq_true rfl⟩ dX12_known_38

set_option maxHeartbeats 4000000 in
set_option maxRecDepth 100000 in
theorem C_X12_together (l : Launch) (g : GG) (h0 b1 b6 b7 b8 b9 b10 b11 b12 b13 b14 b15 b16 b17 b21 b22 b23 b24 b25 b26 b28 b29 b30 b31 b32 b33 b34 b35 b36 b46 b47 b48 b49 b50 b51 b52 b53 b54 b55 b56 b57 b58 b59 b60 b61 b62 b63 : Nat) (p0 : Int32) (p1 : Int32) (p2 : Int32) : MetI l g yX12_together cX12_together 6 (some .int) 1 0 0 [.ref h0, .int p0, .int p1, .int p2] [(h0, .inr (12, [.int 0, .ref b1, .int 0, .int 0, .int 0, .int 0, .ref b6, .ref b7, .ref b8, .ref b9, .ref b10, .ref b11, .ref b12, .ref b13, .ref b14, .ref b15, .ref b16, .ref b17, .int 0, .int (-1), .int (-1), .ref b21, .ref b22, .ref b23, .ref b24, .ref b25, .ref b26, .int 0, .ref b28, .ref b29, .ref b30, .ref b31, .ref b32, .ref b33, .ref b34, .ref b35, .ref b36, .int 0, .int 0, .int 0, .int 0, .int 0, .int 0, .int 0, .int 0, .int 0, .ref b46, .ref b47, .ref b48, .ref b49, .ref b50, .ref b51, .ref b52, .ref b53, .ref b54, .ref b55, .ref b56, .ref b57, .ref b58, .ref b59, .ref b60, .ref b61, .ref b62, .ref b63]))] (fun r u => r = (-1) ∧ u = [(h0, .inr (12, [.int 0, .ref b1, .int 0, .int 0, .int 0, .int 0, .ref b6, .ref b7, .ref b8, .ref b9, .ref b10, .ref b11, .ref b12, .ref b13, .ref b14, .ref b15, .ref b16, .ref b17, .int 0, .int (-1), .int (-1), .ref b21, .ref b22, .ref b23, .ref b24, .ref b25, .ref b26, .int 0, .ref b28, .ref b29, .ref b30, .ref b31, .ref b32, .ref b33, .ref b34, .ref b35, .ref b36, .int 0, .int 0, .int 0, .int 0, .int 0, .int 0, .int 0, .int 0, .int 0, .ref b46, .ref b47, .ref b48, .ref b49, .ref b50, .ref b51, .ref b52, .ref b53, .ref b54, .ref b55, .ref b56, .ref b57, .ref b58, .ref b59, .ref b60, .ref b61, .ref b62, .ref b63]))]) := by
  refine MetI.of (own := RX12) rfl (by decide) (Nat.le_of_ble_eq_true rfl) ?_
  intro p e s m below meth c A ls args Q hQ X hr hin hW hl
  have hx := X.1
  have hb := X.2.1
  have hl : lv_has ls 6 [(0, .ref h0), (1, .int p0), (2, .int p1), (3, .int p2)] := hl
  refine lv_aload_n (pc := 0) hx hb dX12_together_0 rfl (lv_at hl 0 rfl) ?_
  refine lv_iconst (v := 0) (pc := 1) hx hb dX12_together_1 (by decide) ?_
  refine r_put (ws' := [(h0, .inr (12, [.int 0, .ref b1, .int 0, .int 0, .int 0, .int 0, .ref b6, .ref b7, .ref b8, .ref b9, .ref b10, .ref b11, .ref b12, .ref b13, .ref b14, .ref b15, .ref b16, .ref b17, .int 0, .int (-1), .int (-1), .ref b21, .ref b22, .ref b23, .ref b24, .ref b25, .ref b26, .int 0, .ref b28, .ref b29, .ref b30, .ref b31, .ref b32, .ref b33, .ref b34, .ref b35, .ref b36, .int 0, .int 0, .int 0, .int 0, .int 0, .int 0, .int 0, .int 0, .int 0, .ref b46, .ref b47, .ref b48, .ref b49, .ref b50, .ref b51, .ref b52, .ref b53, .ref b54, .ref b55, .ref b56, .ref b57, .ref b58, .ref b59, .ref b60, .ref b61, .ref b62, .ref b63]))]) X hW 0 ciX12 0 rfl (by decide) m_1231 rfl rfl rfl rfl (Nat.le_of_ble_eq_true rfl) rfl dX12_together_2 (fun H locs hW => ?_)
  refine lv_aload_n (pc := 5) hx hb dX12_together_5 rfl (lv_at hl 0 rfl) ?_
  refine lv_iload_n (pc := 6) hx hb dX12_together_6 rfl (lv_at hl 1 rfl) ?_
  refine c_Vi (pc := 7) (As := [.int p0]) (rest := []) (wr := []) X hW 0 ciX12 rfl (C_X12_isPlan l g h0 b1 b6 b7 b8 b9 b10 b11 b12 b13 b14 b15 b16 b17 b21 b22 b23 b24 b25 b26 b28 b29 b30 b31 b32 b33 b34 b35 b36 b46 b47 b48 b49 b50 b51 b52 b53 b54 b55 b56 b57 b58 b59 b60 b61 b62 b63 p0) vX12_247 [0] [] rfl rfl rfl rfl rfl rfl hl.1 rfl (Nat.le_of_ble_eq_true rfl) ⟨Nat.le_of_ble_eq_true rfl, Nat.le_of_ble_eq_true rfl⟩ ⟨Nat.le_of_ble_eq_true rfl, Nat.le_of_ble_eq_true rfl⟩ dX12_together_7 (fun r1 u9 H locs hq hW => ?_)
  obtain ⟨rfl, rfl⟩ := hq
  have hW : WD g A s _ _ [(h0, .inr (12, [.int 0, .ref b1, .int 0, .int 0, .int 0, .int 0, .ref b6, .ref b7, .ref b8, .ref b9, .ref b10, .ref b11, .ref b12, .ref b13, .ref b14, .ref b15, .ref b16, .ref b17, .int 0, .int (-1), .int (-1), .ref b21, .ref b22, .ref b23, .ref b24, .ref b25, .ref b26, .int 0, .ref b28, .ref b29, .ref b30, .ref b31, .ref b32, .ref b33, .ref b34, .ref b35, .ref b36, .int 0, .int 0, .int 0, .int 0, .int 0, .int 0, .int 0, .int 0, .int 0, .ref b46, .ref b47, .ref b48, .ref b49, .ref b50, .ref b51, .ref b52, .ref b53, .ref b54, .ref b55, .ref b56, .ref b57, .ref b58, .ref b59, .ref b60, .ref b61, .ref b62, .ref b63]))] := hW
  refine lv_if_eq (tgt := 41) (pc := 10) hx hb dX12_together_10 rfl (fun c2 => ?_) (fun c2 => absurd (by decide) c2)
  refine lv_iconst (v := (-1)) (pc := 41) hx hb dX12_together_41 (by decide) ?_
  exact e_i X hQ hr hW (u := [(h0, .inr (12, [.int 0, .ref b1, .int 0, .int 0, .int 0, .int 0, .ref b6, .ref b7, .ref b8, .ref b9, .ref b10, .ref b11, .ref b12, .ref b13, .ref b14, .ref b15, .ref b16, .ref b17, .int 0, .int (-1), .int (-1), .ref b21, .ref b22, .ref b23, .ref b24, .ref b25, .ref b26, .int 0, .ref b28, .ref b29, .ref b30, .ref b31, .ref b32, .ref b33, .ref b34, .ref b35, .ref b36, .int 0, .int 0, .int 0, .int 0, .int 0, .int 0, .int 0, .int 0, .int 0, .ref b46, .ref b47, .ref b48, .ref b49, .ref b50, .ref b51, .ref b52, .ref b53, .ref b54, .ref b55, .ref b56, .ref b57, .ref b58, .ref b59, .ref b60, .ref b61, .ref b62, .ref b63]))]) [0] rfl rfl (⟨rfl, rfl⟩) ⟨Nat.le_of_ble_eq_true rfl, Nat.le_of_ble_eq_true rfl⟩ dX12_together_42

set_option maxHeartbeats 4000000 in
set_option maxRecDepth 100000 in
theorem C_X12_when (l : Launch) (g : GG) (h0 b1 b6 b7 b8 b9 b10 b11 b12 b13 b14 b15 b16 b17 b21 b22 b23 b24 b25 b26 b28 b29 b30 b31 b32 b33 b34 b35 b36 b46 b47 b48 b49 b50 b51 b52 b53 b54 b55 b56 b57 b58 b59 b60 b61 b62 b63 : Nat) (p0 : Int32) (p1 : Int32) : MetI l g yX12_when cX12_when 6 (some .int) 1 0 0 [.ref h0, .int p0, .int p1] [(h0, .inr (12, [.int 0, .ref b1, .int 0, .int 0, .int 0, .int 0, .ref b6, .ref b7, .ref b8, .ref b9, .ref b10, .ref b11, .ref b12, .ref b13, .ref b14, .ref b15, .ref b16, .ref b17, .int 0, .int (-1), .int (-1), .ref b21, .ref b22, .ref b23, .ref b24, .ref b25, .ref b26, .int 0, .ref b28, .ref b29, .ref b30, .ref b31, .ref b32, .ref b33, .ref b34, .ref b35, .ref b36, .int 0, .int 0, .int 0, .int 0, .int 0, .int 0, .int 0, .int 0, .int 0, .ref b46, .ref b47, .ref b48, .ref b49, .ref b50, .ref b51, .ref b52, .ref b53, .ref b54, .ref b55, .ref b56, .ref b57, .ref b58, .ref b59, .ref b60, .ref b61, .ref b62, .ref b63]))] (fun r u => r = (-1) ∧ u = [(h0, .inr (12, [.int 0, .ref b1, .int 0, .int 0, .int 0, .int 0, .ref b6, .ref b7, .ref b8, .ref b9, .ref b10, .ref b11, .ref b12, .ref b13, .ref b14, .ref b15, .ref b16, .ref b17, .int 0, .int (-1), .int (-1), .ref b21, .ref b22, .ref b23, .ref b24, .ref b25, .ref b26, .int 0, .ref b28, .ref b29, .ref b30, .ref b31, .ref b32, .ref b33, .ref b34, .ref b35, .ref b36, .int 0, .int 0, .int 0, .int 0, .int 0, .int 0, .int 0, .int 0, .int 0, .ref b46, .ref b47, .ref b48, .ref b49, .ref b50, .ref b51, .ref b52, .ref b53, .ref b54, .ref b55, .ref b56, .ref b57, .ref b58, .ref b59, .ref b60, .ref b61, .ref b62, .ref b63]))]) := by
  refine MetI.of (own := RX12) rfl (by decide) (Nat.le_of_ble_eq_true rfl) ?_
  intro p e s m below meth c A ls args Q hQ X hr hin hW hl
  have hx := X.1
  have hb := X.2.1
  have hl : lv_has ls 6 [(0, .ref h0), (1, .int p0), (2, .int p1)] := hl
  refine lv_aload_n (pc := 0) hx hb dX12_when_0 rfl (lv_at hl 0 rfl) ?_
  refine lv_iconst (v := 0) (pc := 1) hx hb dX12_when_1 (by decide) ?_
  refine r_put (ws' := [(h0, .inr (12, [.int 0, .ref b1, .int 0, .int 0, .int 0, .int 0, .ref b6, .ref b7, .ref b8, .ref b9, .ref b10, .ref b11, .ref b12, .ref b13, .ref b14, .ref b15, .ref b16, .ref b17, .int 0, .int (-1), .int (-1), .ref b21, .ref b22, .ref b23, .ref b24, .ref b25, .ref b26, .int 0, .ref b28, .ref b29, .ref b30, .ref b31, .ref b32, .ref b33, .ref b34, .ref b35, .ref b36, .int 0, .int 0, .int 0, .int 0, .int 0, .int 0, .int 0, .int 0, .int 0, .ref b46, .ref b47, .ref b48, .ref b49, .ref b50, .ref b51, .ref b52, .ref b53, .ref b54, .ref b55, .ref b56, .ref b57, .ref b58, .ref b59, .ref b60, .ref b61, .ref b62, .ref b63]))]) X hW 0 ciX12 0 rfl (by decide) m_1231 rfl rfl rfl rfl (Nat.le_of_ble_eq_true rfl) rfl dX12_when_2 (fun H locs hW => ?_)
  refine lv_aload_n (pc := 5) hx hb dX12_when_5 rfl (lv_at hl 0 rfl) ?_
  refine lv_iload_n (pc := 6) hx hb dX12_when_6 rfl (lv_at hl 1 rfl) ?_
  refine c_Vi (pc := 7) (As := [.int p0]) (rest := []) (wr := []) X hW 0 ciX12 rfl (C_X12_isPlan l g h0 b1 b6 b7 b8 b9 b10 b11 b12 b13 b14 b15 b16 b17 b21 b22 b23 b24 b25 b26 b28 b29 b30 b31 b32 b33 b34 b35 b36 b46 b47 b48 b49 b50 b51 b52 b53 b54 b55 b56 b57 b58 b59 b60 b61 b62 b63 p0) vX12_247 [0] [] rfl rfl rfl rfl rfl rfl hl.1 rfl (Nat.le_of_ble_eq_true rfl) ⟨Nat.le_of_ble_eq_true rfl, Nat.le_of_ble_eq_true rfl⟩ ⟨Nat.le_of_ble_eq_true rfl, Nat.le_of_ble_eq_true rfl⟩ dX12_when_7 (fun r1 u9 H locs hq hW => ?_)
  obtain ⟨rfl, rfl⟩ := hq
  have hW : WD g A s _ _ [(h0, .inr (12, [.int 0, .ref b1, .int 0, .int 0, .int 0, .int 0, .ref b6, .ref b7, .ref b8, .ref b9, .ref b10, .ref b11, .ref b12, .ref b13, .ref b14, .ref b15, .ref b16, .ref b17, .int 0, .int (-1), .int (-1), .ref b21, .ref b22, .ref b23, .ref b24, .ref b25, .ref b26, .int 0, .ref b28, .ref b29, .ref b30, .ref b31, .ref b32, .ref b33, .ref b34, .ref b35, .ref b36, .int 0, .int 0, .int 0, .int 0, .int 0, .int 0, .int 0, .int 0, .int 0, .ref b46, .ref b47, .ref b48, .ref b49, .ref b50, .ref b51, .ref b52, .ref b53, .ref b54, .ref b55, .ref b56, .ref b57, .ref b58, .ref b59, .ref b60, .ref b61, .ref b62, .ref b63]))] := hW
  refine lv_if_eq (tgt := 22) (pc := 10) hx hb dX12_when_10 rfl (fun c2 => ?_) (fun c2 => absurd (by decide) c2)
  refine lv_iconst (v := (-1)) (pc := 22) hx hb dX12_when_22 (by decide) ?_
  exact e_i X hQ hr hW (u := [(h0, .inr (12, [.int 0, .ref b1, .int 0, .int 0, .int 0, .int 0, .ref b6, .ref b7, .ref b8, .ref b9, .ref b10, .ref b11, .ref b12, .ref b13, .ref b14, .ref b15, .ref b16, .ref b17, .int 0, .int (-1), .int (-1), .ref b21, .ref b22, .ref b23, .ref b24, .ref b25, .ref b26, .int 0, .ref b28, .ref b29, .ref b30, .ref b31, .ref b32, .ref b33, .ref b34, .ref b35, .ref b36, .int 0, .int 0, .int 0, .int 0, .int 0, .int 0, .int 0, .int 0, .int 0, .ref b46, .ref b47, .ref b48, .ref b49, .ref b50, .ref b51, .ref b52, .ref b53, .ref b54, .ref b55, .ref b56, .ref b57, .ref b58, .ref b59, .ref b60, .ref b61, .ref b62, .ref b63]))]) [0] rfl rfl (⟨rfl, rfl⟩) ⟨Nat.le_of_ble_eq_true rfl, Nat.le_of_ble_eq_true rfl⟩ dX12_when_23

set_option maxHeartbeats 4000000 in
set_option maxRecDepth 100000 in
theorem C_X12_least (l : Launch) (g : GG) (h0 b1 b6 b7 b8 b9 b10 b11 b12 b13 b14 b15 b16 b17 b21 b22 b23 b24 b25 b26 b28 b29 b30 b31 b32 b33 b34 b35 b36 b46 b47 b48 b49 b50 b51 b52 b53 b54 b55 b56 b57 b58 b59 b60 b61 b62 b63 : Nat) (p0 : Int32) (p1 : Int32) (p2 : Int32) : MetI l g yX12_least cX12_least 5 (some .int) 2 0 0 [.ref h0, .int p0, .int p1, .int p2] [(h0, .inr (12, [.int 0, .ref b1, .int 0, .int 0, .int 0, .int 0, .ref b6, .ref b7, .ref b8, .ref b9, .ref b10, .ref b11, .ref b12, .ref b13, .ref b14, .ref b15, .ref b16, .ref b17, .int 0, .int (-1), .int (-1), .ref b21, .ref b22, .ref b23, .ref b24, .ref b25, .ref b26, .int 0, .ref b28, .ref b29, .ref b30, .ref b31, .ref b32, .ref b33, .ref b34, .ref b35, .ref b36, .int 0, .int 0, .int 0, .int 0, .int 0, .int 0, .int 0, .int 0, .int 0, .ref b46, .ref b47, .ref b48, .ref b49, .ref b50, .ref b51, .ref b52, .ref b53, .ref b54, .ref b55, .ref b56, .ref b57, .ref b58, .ref b59, .ref b60, .ref b61, .ref b62, .ref b63]))] (fun r u => r = (-1) ∧ u = [(h0, .inr (12, [.int 0, .ref b1, .int 0, .int 0, .int 0, .int 0, .ref b6, .ref b7, .ref b8, .ref b9, .ref b10, .ref b11, .ref b12, .ref b13, .ref b14, .ref b15, .ref b16, .ref b17, .int 0, .int (-1), .int (-1), .ref b21, .ref b22, .ref b23, .ref b24, .ref b25, .ref b26, .int 0, .ref b28, .ref b29, .ref b30, .ref b31, .ref b32, .ref b33, .ref b34, .ref b35, .ref b36, .int 0, .int 0, .int 0, .int 0, .int 0, .int 0, .int 0, .int 0, .int 0, .ref b46, .ref b47, .ref b48, .ref b49, .ref b50, .ref b51, .ref b52, .ref b53, .ref b54, .ref b55, .ref b56, .ref b57, .ref b58, .ref b59, .ref b60, .ref b61, .ref b62, .ref b63]))]) := by
  refine MetI.of (own := RX12) rfl (by decide) (Nat.le_of_ble_eq_true rfl) ?_
  intro p e s m below meth c A ls args Q hQ X hr hin hW hl
  have hx := X.1
  have hb := X.2.1
  have hl : lv_has ls 5 [(0, .ref h0), (1, .int p0), (2, .int p1), (3, .int p2)] := hl
  refine lv_aload_n (pc := 0) hx hb dX12_least_0 rfl (lv_at hl 0 rfl) ?_
  refine lv_iload_n (pc := 1) hx hb dX12_least_1 rfl (lv_at hl 1 rfl) ?_
  refine lv_iload_n (pc := 2) hx hb dX12_least_2 rfl (lv_at hl 2 rfl) ?_
  refine c_Vi (pc := 3) (As := [.int p0, .int p1]) (rest := []) (wr := []) X hW 0 ciX12 rfl (C_X12_isAsked l g h0 b1 b6 b7 b8 b9 b10 b11 b12 b13 b14 b15 b16 b17 b21 b22 b23 b24 b25 b26 b28 b29 b30 b31 b32 b33 b34 b35 b36 b46 b47 b48 b49 b50 b51 b52 b53 b54 b55 b56 b57 b58 b59 b60 b61 b62 b63 p0 p1) vX12_315 [0] [] rfl rfl rfl rfl rfl rfl hl.1 rfl (Nat.le_of_ble_eq_true rfl) ⟨Nat.le_of_ble_eq_true rfl, Nat.le_of_ble_eq_true rfl⟩ ⟨Nat.le_of_ble_eq_true rfl, Nat.le_of_ble_eq_true rfl⟩ dX12_least_3 (fun r1 u9 H locs hq hW => ?_)
  obtain ⟨rfl, rfl⟩ := hq
  have hW : WD g A s _ _ [(h0, .inr (12, [.int 0, .ref b1, .int 0, .int 0, .int 0, .int 0, .ref b6, .ref b7, .ref b8, .ref b9, .ref b10, .ref b11, .ref b12, .ref b13, .ref b14, .ref b15, .ref b16, .ref b17, .int 0, .int (-1), .int (-1), .ref b21, .ref b22, .ref b23, .ref b24, .ref b25, .ref b26, .int 0, .ref b28, .ref b29, .ref b30, .ref b31, .ref b32, .ref b33, .ref b34, .ref b35, .ref b36, .int 0, .int 0, .int 0, .int 0, .int 0, .int 0, .int 0, .int 0, .int 0, .ref b46, .ref b47, .ref b48, .ref b49, .ref b50, .ref b51, .ref b52, .ref b53, .ref b54, .ref b55, .ref b56, .ref b57, .ref b58, .ref b59, .ref b60, .ref b61, .ref b62, .ref b63]))] := hW
  refine lv_if_eq (tgt := 16) (pc := 6) hx hb dX12_least_6 rfl (fun c2 => ?_) (fun c2 => absurd (by decide) c2)
  refine lv_iconst (v := (-1)) (pc := 16) hx hb dX12_least_16 (by decide) ?_
  exact e_i X hQ hr hW (u := [(h0, .inr (12, [.int 0, .ref b1, .int 0, .int 0, .int 0, .int 0, .ref b6, .ref b7, .ref b8, .ref b9, .ref b10, .ref b11, .ref b12, .ref b13, .ref b14, .ref b15, .ref b16, .ref b17, .int 0, .int (-1), .int (-1), .ref b21, .ref b22, .ref b23, .ref b24, .ref b25, .ref b26, .int 0, .ref b28, .ref b29, .ref b30, .ref b31, .ref b32, .ref b33, .ref b34, .ref b35, .ref b36, .int 0, .int 0, .int 0, .int 0, .int 0, .int 0, .int 0, .int 0, .int 0, .ref b46, .ref b47, .ref b48, .ref b49, .ref b50, .ref b51, .ref b52, .ref b53, .ref b54, .ref b55, .ref b56, .ref b57, .ref b58, .ref b59, .ref b60, .ref b61, .ref b62, .ref b63]))]) [0] rfl rfl (⟨rfl, rfl⟩) ⟨Nat.le_of_ble_eq_true rfl, Nat.le_of_ble_eq_true rfl⟩ dX12_least_17

set_option maxHeartbeats 4000000 in
set_option maxRecDepth 100000 in
theorem C_X12_found (l : Launch) (g : GG) (h0 b1 b6 b7 b8 b9 b10 b11 b12 b13 b14 b15 b16 b17 b21 b22 b23 b24 b25 b26 b28 b29 b30 b31 b32 b33 b34 b35 b36 b46 b47 b48 b49 b50 b51 b52 b53 b54 b55 b56 b57 b58 b59 b60 b61 b62 b63 : Nat) (p0 : Int32) (p1 : Int32) (p2 : Int32) (p3 : Int32) (p4 : Int32) : MetI l g yX12_found cX12_found 11 (some .int) 2 0 0 [.ref h0, .int p0, .int p1, .int p2, .int p3, .int p4] [(h0, .inr (12, [.int 0, .ref b1, .int 0, .int 0, .int 0, .int 0, .ref b6, .ref b7, .ref b8, .ref b9, .ref b10, .ref b11, .ref b12, .ref b13, .ref b14, .ref b15, .ref b16, .ref b17, .int 0, .int (-1), .int (-1), .ref b21, .ref b22, .ref b23, .ref b24, .ref b25, .ref b26, .int 0, .ref b28, .ref b29, .ref b30, .ref b31, .ref b32, .ref b33, .ref b34, .ref b35, .ref b36, .int 0, .int 0, .int 0, .int 0, .int 0, .int 0, .int 0, .int 0, .int 0, .ref b46, .ref b47, .ref b48, .ref b49, .ref b50, .ref b51, .ref b52, .ref b53, .ref b54, .ref b55, .ref b56, .ref b57, .ref b58, .ref b59, .ref b60, .ref b61, .ref b62, .ref b63]))] (fun r u => r = (-1) ∧ u = [(h0, .inr (12, [.int 0, .ref b1, .int 0, .int 0, .int 0, .int 0, .ref b6, .ref b7, .ref b8, .ref b9, .ref b10, .ref b11, .ref b12, .ref b13, .ref b14, .ref b15, .ref b16, .ref b17, .int 0, .int (-1), .int (-1), .ref b21, .ref b22, .ref b23, .ref b24, .ref b25, .ref b26, .int 0, .ref b28, .ref b29, .ref b30, .ref b31, .ref b32, .ref b33, .ref b34, .ref b35, .ref b36, .int 0, .int 0, .int 0, .int 0, .int 0, .int 0, .int 0, .int 0, .int 0, .ref b46, .ref b47, .ref b48, .ref b49, .ref b50, .ref b51, .ref b52, .ref b53, .ref b54, .ref b55, .ref b56, .ref b57, .ref b58, .ref b59, .ref b60, .ref b61, .ref b62, .ref b63]))]) := by
  refine MetI.of (own := RX12) rfl (by decide) (Nat.le_of_ble_eq_true rfl) ?_
  intro p e s m below meth c A ls args Q hQ X hr hin hW hl
  have hx := X.1
  have hb := X.2.1
  have hl : lv_has ls 11 [(0, .ref h0), (1, .int p0), (2, .int p1), (3, .int p2), (4, .int p3), (5, .int p4)] := hl
  refine lv_aload_n (pc := 0) hx hb dX12_found_0 rfl (lv_at hl 0 rfl) ?_
  refine lv_iload_n (pc := 1) hx hb dX12_found_1 rfl (lv_at hl 1 rfl) ?_
  refine lv_iload_n (pc := 2) hx hb dX12_found_2 rfl (lv_at hl 2 rfl) ?_
  refine c_Vi (pc := 3) (As := [.int p0, .int p1]) (rest := []) (wr := []) X hW 0 ciX12 rfl (C_X12_isAsked l g h0 b1 b6 b7 b8 b9 b10 b11 b12 b13 b14 b15 b16 b17 b21 b22 b23 b24 b25 b26 b28 b29 b30 b31 b32 b33 b34 b35 b36 b46 b47 b48 b49 b50 b51 b52 b53 b54 b55 b56 b57 b58 b59 b60 b61 b62 b63 p0 p1) vX12_315 [0] [] rfl rfl rfl rfl rfl rfl hl.1 rfl (Nat.le_of_ble_eq_true rfl) ⟨Nat.le_of_ble_eq_true rfl, Nat.le_of_ble_eq_true rfl⟩ ⟨Nat.le_of_ble_eq_true rfl, Nat.le_of_ble_eq_true rfl⟩ dX12_found_3 (fun r1 u9 H locs hq hW => ?_)
  obtain ⟨rfl, rfl⟩ := hq
  have hW : WD g A s _ _ [(h0, .inr (12, [.int 0, .ref b1, .int 0, .int 0, .int 0, .int 0, .ref b6, .ref b7, .ref b8, .ref b9, .ref b10, .ref b11, .ref b12, .ref b13, .ref b14, .ref b15, .ref b16, .ref b17, .int 0, .int (-1), .int (-1), .ref b21, .ref b22, .ref b23, .ref b24, .ref b25, .ref b26, .int 0, .ref b28, .ref b29, .ref b30, .ref b31, .ref b32, .ref b33, .ref b34, .ref b35, .ref b36, .int 0, .int 0, .int 0, .int 0, .int 0, .int 0, .int 0, .int 0, .int 0, .ref b46, .ref b47, .ref b48, .ref b49, .ref b50, .ref b51, .ref b52, .ref b53, .ref b54, .ref b55, .ref b56, .ref b57, .ref b58, .ref b59, .ref b60, .ref b61, .ref b62, .ref b63]))] := hW
  refine lv_if_eq (tgt := 26) (pc := 6) hx hb dX12_found_6 rfl (fun c2 => ?_) (fun c2 => absurd (by decide) c2)
  refine lv_iconst (v := (-1)) (pc := 26) hx hb dX12_found_26 (by decide) ?_
  exact e_i X hQ hr hW (u := [(h0, .inr (12, [.int 0, .ref b1, .int 0, .int 0, .int 0, .int 0, .ref b6, .ref b7, .ref b8, .ref b9, .ref b10, .ref b11, .ref b12, .ref b13, .ref b14, .ref b15, .ref b16, .ref b17, .int 0, .int (-1), .int (-1), .ref b21, .ref b22, .ref b23, .ref b24, .ref b25, .ref b26, .int 0, .ref b28, .ref b29, .ref b30, .ref b31, .ref b32, .ref b33, .ref b34, .ref b35, .ref b36, .int 0, .int 0, .int 0, .int 0, .int 0, .int 0, .int 0, .int 0, .int 0, .ref b46, .ref b47, .ref b48, .ref b49, .ref b50, .ref b51, .ref b52, .ref b53, .ref b54, .ref b55, .ref b56, .ref b57, .ref b58, .ref b59, .ref b60, .ref b61, .ref b62, .ref b63]))]) [0] rfl rfl (⟨rfl, rfl⟩) ⟨Nat.le_of_ble_eq_true rfl, Nat.le_of_ble_eq_true rfl⟩ dX12_found_27

set_option maxHeartbeats 4000000 in
set_option maxRecDepth 100000 in
theorem C_X12_reach (l : Launch) (g : GG) (h0 b1 b6 b7 b8 b9 b10 b11 b12 b13 b14 b15 b16 b17 b21 b22 b23 b24 b25 b26 b28 b29 b30 b31 b32 b33 b34 b35 b36 b46 b47 b48 b49 b50 b51 b52 b53 b54 b55 b56 b57 b58 b59 b60 b61 b62 b63 : Nat) (p0 : Int32) (p1 : Int32) (p2 : Int32) (p3 : Int32) : MetI l g yX12_reach cX12_reach 9 (some .int) 2 0 0 [.ref h0, .int p0, .int p1, .int p2, .int p3] [(h0, .inr (12, [.int 0, .ref b1, .int 0, .int 0, .int 0, .int 0, .ref b6, .ref b7, .ref b8, .ref b9, .ref b10, .ref b11, .ref b12, .ref b13, .ref b14, .ref b15, .ref b16, .ref b17, .int 0, .int (-1), .int (-1), .ref b21, .ref b22, .ref b23, .ref b24, .ref b25, .ref b26, .int 0, .ref b28, .ref b29, .ref b30, .ref b31, .ref b32, .ref b33, .ref b34, .ref b35, .ref b36, .int 0, .int 0, .int 0, .int 0, .int 0, .int 0, .int 0, .int 0, .int 0, .ref b46, .ref b47, .ref b48, .ref b49, .ref b50, .ref b51, .ref b52, .ref b53, .ref b54, .ref b55, .ref b56, .ref b57, .ref b58, .ref b59, .ref b60, .ref b61, .ref b62, .ref b63]))] (fun r u => r = (-1) ∧ u = [(h0, .inr (12, [.int 0, .ref b1, .int 0, .int 0, .int 0, .int 0, .ref b6, .ref b7, .ref b8, .ref b9, .ref b10, .ref b11, .ref b12, .ref b13, .ref b14, .ref b15, .ref b16, .ref b17, .int 0, .int (-1), .int (-1), .ref b21, .ref b22, .ref b23, .ref b24, .ref b25, .ref b26, .int 0, .ref b28, .ref b29, .ref b30, .ref b31, .ref b32, .ref b33, .ref b34, .ref b35, .ref b36, .int 0, .int 0, .int 0, .int 0, .int 0, .int 0, .int 0, .int 0, .int 0, .ref b46, .ref b47, .ref b48, .ref b49, .ref b50, .ref b51, .ref b52, .ref b53, .ref b54, .ref b55, .ref b56, .ref b57, .ref b58, .ref b59, .ref b60, .ref b61, .ref b62, .ref b63]))]) := by
  refine MetI.of (own := RX12) rfl (by decide) (Nat.le_of_ble_eq_true rfl) ?_
  intro p e s m below meth c A ls args Q hQ X hr hin hW hl
  have hx := X.1
  have hb := X.2.1
  have hl : lv_has ls 9 [(0, .ref h0), (1, .int p0), (2, .int p1), (3, .int p2), (4, .int p3)] := hl
  refine lv_aload_n (pc := 0) hx hb dX12_reach_0 rfl (lv_at hl 0 rfl) ?_
  refine lv_iload_n (pc := 1) hx hb dX12_reach_1 rfl (lv_at hl 1 rfl) ?_
  refine lv_iload_n (pc := 2) hx hb dX12_reach_2 rfl (lv_at hl 2 rfl) ?_
  refine c_Vi (pc := 3) (As := [.int p0, .int p1]) (rest := []) (wr := []) X hW 0 ciX12 rfl (C_X12_isAsked l g h0 b1 b6 b7 b8 b9 b10 b11 b12 b13 b14 b15 b16 b17 b21 b22 b23 b24 b25 b26 b28 b29 b30 b31 b32 b33 b34 b35 b36 b46 b47 b48 b49 b50 b51 b52 b53 b54 b55 b56 b57 b58 b59 b60 b61 b62 b63 p0 p1) vX12_315 [0] [] rfl rfl rfl rfl rfl rfl hl.1 rfl (Nat.le_of_ble_eq_true rfl) ⟨Nat.le_of_ble_eq_true rfl, Nat.le_of_ble_eq_true rfl⟩ ⟨Nat.le_of_ble_eq_true rfl, Nat.le_of_ble_eq_true rfl⟩ dX12_reach_3 (fun r1 u9 H locs hq hW => ?_)
  obtain ⟨rfl, rfl⟩ := hq
  have hW : WD g A s _ _ [(h0, .inr (12, [.int 0, .ref b1, .int 0, .int 0, .int 0, .int 0, .ref b6, .ref b7, .ref b8, .ref b9, .ref b10, .ref b11, .ref b12, .ref b13, .ref b14, .ref b15, .ref b16, .ref b17, .int 0, .int (-1), .int (-1), .ref b21, .ref b22, .ref b23, .ref b24, .ref b25, .ref b26, .int 0, .ref b28, .ref b29, .ref b30, .ref b31, .ref b32, .ref b33, .ref b34, .ref b35, .ref b36, .int 0, .int 0, .int 0, .int 0, .int 0, .int 0, .int 0, .int 0, .int 0, .ref b46, .ref b47, .ref b48, .ref b49, .ref b50, .ref b51, .ref b52, .ref b53, .ref b54, .ref b55, .ref b56, .ref b57, .ref b58, .ref b59, .ref b60, .ref b61, .ref b62, .ref b63]))] := hW
  refine lv_if_eq (tgt := 29) (pc := 6) hx hb dX12_reach_6 rfl (fun c2 => ?_) (fun c2 => absurd (by decide) c2)
  refine lv_iconst (v := (-1)) (pc := 29) hx hb dX12_reach_29 (by decide) ?_
  exact e_i X hQ hr hW (u := [(h0, .inr (12, [.int 0, .ref b1, .int 0, .int 0, .int 0, .int 0, .ref b6, .ref b7, .ref b8, .ref b9, .ref b10, .ref b11, .ref b12, .ref b13, .ref b14, .ref b15, .ref b16, .ref b17, .int 0, .int (-1), .int (-1), .ref b21, .ref b22, .ref b23, .ref b24, .ref b25, .ref b26, .int 0, .ref b28, .ref b29, .ref b30, .ref b31, .ref b32, .ref b33, .ref b34, .ref b35, .ref b36, .int 0, .int 0, .int 0, .int 0, .int 0, .int 0, .int 0, .int 0, .int 0, .ref b46, .ref b47, .ref b48, .ref b49, .ref b50, .ref b51, .ref b52, .ref b53, .ref b54, .ref b55, .ref b56, .ref b57, .ref b58, .ref b59, .ref b60, .ref b61, .ref b62, .ref b63]))]) [0] rfl rfl (⟨rfl, rfl⟩) ⟨Nat.le_of_ble_eq_true rfl, Nat.le_of_ble_eq_true rfl⟩ dX12_reach_30

set_option maxHeartbeats 4000000 in
set_option maxRecDepth 100000 in
theorem C_X12_from (l : Launch) (g : GG) (h0 b1 b6 b7 b8 b9 b10 b11 b12 b13 b14 b15 b16 b17 b21 b22 b23 b24 b25 b26 b28 b29 b30 b31 b32 b33 b34 b35 b36 b46 b47 b48 b49 b50 b51 b52 b53 b54 b55 b56 b57 b58 b59 b60 b61 b62 b63 : Nat) (p0 : Int32) (p1 : Int32) (p2 : Int32) : MetI l g yX12_from cX12_from 8 (some .int) 1 0 0 [.ref h0, .int p0, .int p1, .int p2] [(h0, .inr (12, [.int 0, .ref b1, .int 0, .int 0, .int 0, .int 0, .ref b6, .ref b7, .ref b8, .ref b9, .ref b10, .ref b11, .ref b12, .ref b13, .ref b14, .ref b15, .ref b16, .ref b17, .int 0, .int (-1), .int (-1), .ref b21, .ref b22, .ref b23, .ref b24, .ref b25, .ref b26, .int 0, .ref b28, .ref b29, .ref b30, .ref b31, .ref b32, .ref b33, .ref b34, .ref b35, .ref b36, .int 0, .int 0, .int 0, .int 0, .int 0, .int 0, .int 0, .int 0, .int 0, .ref b46, .ref b47, .ref b48, .ref b49, .ref b50, .ref b51, .ref b52, .ref b53, .ref b54, .ref b55, .ref b56, .ref b57, .ref b58, .ref b59, .ref b60, .ref b61, .ref b62, .ref b63]))] (fun r u => r = (-1) ∧ u = [(h0, .inr (12, [.int 0, .ref b1, .int 0, .int 0, .int 0, .int 0, .ref b6, .ref b7, .ref b8, .ref b9, .ref b10, .ref b11, .ref b12, .ref b13, .ref b14, .ref b15, .ref b16, .ref b17, .int 0, .int (-1), .int (-1), .ref b21, .ref b22, .ref b23, .ref b24, .ref b25, .ref b26, .int 0, .ref b28, .ref b29, .ref b30, .ref b31, .ref b32, .ref b33, .ref b34, .ref b35, .ref b36, .int 0, .int 0, .int 0, .int 0, .int 0, .int 0, .int 0, .int 0, .int 0, .ref b46, .ref b47, .ref b48, .ref b49, .ref b50, .ref b51, .ref b52, .ref b53, .ref b54, .ref b55, .ref b56, .ref b57, .ref b58, .ref b59, .ref b60, .ref b61, .ref b62, .ref b63]))]) := by
  refine MetI.of (own := RX12) rfl (by decide) (Nat.le_of_ble_eq_true rfl) ?_
  intro p e s m below meth c A ls args Q hQ X hr hin hW hl
  have hx := X.1
  have hb := X.2.1
  have hl : lv_has ls 8 [(0, .ref h0), (1, .int p0), (2, .int p1), (3, .int p2)] := hl
  refine lv_aload_n (pc := 0) hx hb dX12_from_0 rfl (lv_at hl 0 rfl) ?_
  refine lv_iconst (v := 0) (pc := 1) hx hb dX12_from_1 (by decide) ?_
  refine r_put (ws' := [(h0, .inr (12, [.int 0, .ref b1, .int 0, .int 0, .int 0, .int 0, .ref b6, .ref b7, .ref b8, .ref b9, .ref b10, .ref b11, .ref b12, .ref b13, .ref b14, .ref b15, .ref b16, .ref b17, .int 0, .int (-1), .int (-1), .ref b21, .ref b22, .ref b23, .ref b24, .ref b25, .ref b26, .int 0, .ref b28, .ref b29, .ref b30, .ref b31, .ref b32, .ref b33, .ref b34, .ref b35, .ref b36, .int 0, .int 0, .int 0, .int 0, .int 0, .int 0, .int 0, .int 0, .int 0, .ref b46, .ref b47, .ref b48, .ref b49, .ref b50, .ref b51, .ref b52, .ref b53, .ref b54, .ref b55, .ref b56, .ref b57, .ref b58, .ref b59, .ref b60, .ref b61, .ref b62, .ref b63]))]) X hW 0 ciX12 0 rfl (by decide) m_1231 rfl rfl rfl rfl (Nat.le_of_ble_eq_true rfl) rfl dX12_from_2 (fun H locs hW => ?_)
  refine lv_aload_n (pc := 5) hx hb dX12_from_5 rfl (lv_at hl 0 rfl) ?_
  refine lv_iload_n (pc := 6) hx hb dX12_from_6 rfl (lv_at hl 1 rfl) ?_
  refine c_Vi (pc := 7) (As := [.int p0]) (rest := []) (wr := []) X hW 0 ciX12 rfl (C_X12_isPlan l g h0 b1 b6 b7 b8 b9 b10 b11 b12 b13 b14 b15 b16 b17 b21 b22 b23 b24 b25 b26 b28 b29 b30 b31 b32 b33 b34 b35 b36 b46 b47 b48 b49 b50 b51 b52 b53 b54 b55 b56 b57 b58 b59 b60 b61 b62 b63 p0) vX12_247 [0] [] rfl rfl rfl rfl rfl rfl hl.1 rfl (Nat.le_of_ble_eq_true rfl) ⟨Nat.le_of_ble_eq_true rfl, Nat.le_of_ble_eq_true rfl⟩ ⟨Nat.le_of_ble_eq_true rfl, Nat.le_of_ble_eq_true rfl⟩ dX12_from_7 (fun r1 u9 H locs hq hW => ?_)
  obtain ⟨rfl, rfl⟩ := hq
  have hW : WD g A s _ _ [(h0, .inr (12, [.int 0, .ref b1, .int 0, .int 0, .int 0, .int 0, .ref b6, .ref b7, .ref b8, .ref b9, .ref b10, .ref b11, .ref b12, .ref b13, .ref b14, .ref b15, .ref b16, .ref b17, .int 0, .int (-1), .int (-1), .ref b21, .ref b22, .ref b23, .ref b24, .ref b25, .ref b26, .int 0, .ref b28, .ref b29, .ref b30, .ref b31, .ref b32, .ref b33, .ref b34, .ref b35, .ref b36, .int 0, .int 0, .int 0, .int 0, .int 0, .int 0, .int 0, .int 0, .int 0, .ref b46, .ref b47, .ref b48, .ref b49, .ref b50, .ref b51, .ref b52, .ref b53, .ref b54, .ref b55, .ref b56, .ref b57, .ref b58, .ref b59, .ref b60, .ref b61, .ref b62, .ref b63]))] := hW
  refine lv_if_eq (tgt := 30) (pc := 10) hx hb dX12_from_10 rfl (fun c2 => ?_) (fun c2 => absurd (by decide) c2)
  refine lv_iconst (v := (-1)) (pc := 30) hx hb dX12_from_30 (by decide) ?_
  exact e_i X hQ hr hW (u := [(h0, .inr (12, [.int 0, .ref b1, .int 0, .int 0, .int 0, .int 0, .ref b6, .ref b7, .ref b8, .ref b9, .ref b10, .ref b11, .ref b12, .ref b13, .ref b14, .ref b15, .ref b16, .ref b17, .int 0, .int (-1), .int (-1), .ref b21, .ref b22, .ref b23, .ref b24, .ref b25, .ref b26, .int 0, .ref b28, .ref b29, .ref b30, .ref b31, .ref b32, .ref b33, .ref b34, .ref b35, .ref b36, .int 0, .int 0, .int 0, .int 0, .int 0, .int 0, .int 0, .int 0, .int 0, .ref b46, .ref b47, .ref b48, .ref b49, .ref b50, .ref b51, .ref b52, .ref b53, .ref b54, .ref b55, .ref b56, .ref b57, .ref b58, .ref b59, .ref b60, .ref b61, .ref b62, .ref b63]))]) [0] rfl rfl (⟨rfl, rfl⟩) ⟨Nat.le_of_ble_eq_true rfl, Nat.le_of_ble_eq_true rfl⟩ dX12_from_31

set_option maxHeartbeats 4000000 in
set_option maxRecDepth 100000 in
theorem C_X12_added (l : Launch) (g : GG) (h0 b1 b6 b7 b8 b9 b10 b11 b12 b13 b14 b15 b16 b17 b21 b22 b23 b24 b25 b26 b28 b29 b30 b31 b32 b33 b34 b35 b36 b46 b47 b48 b49 b50 b51 b52 b53 b54 b55 b56 b57 b58 b59 b60 b61 b62 b63 : Nat) (p0 : Int32) (p1 : Int32) (p2 : Int32) : MetI l g yX12_added cX12_added 11 (some .int) 2 0 0 [.ref h0, .int p0, .int p1, .int p2] [(h0, .inr (12, [.int 0, .ref b1, .int 0, .int 0, .int 0, .int 0, .ref b6, .ref b7, .ref b8, .ref b9, .ref b10, .ref b11, .ref b12, .ref b13, .ref b14, .ref b15, .ref b16, .ref b17, .int 0, .int (-1), .int (-1), .ref b21, .ref b22, .ref b23, .ref b24, .ref b25, .ref b26, .int 0, .ref b28, .ref b29, .ref b30, .ref b31, .ref b32, .ref b33, .ref b34, .ref b35, .ref b36, .int 0, .int 0, .int 0, .int 0, .int 0, .int 0, .int 0, .int 0, .int 0, .ref b46, .ref b47, .ref b48, .ref b49, .ref b50, .ref b51, .ref b52, .ref b53, .ref b54, .ref b55, .ref b56, .ref b57, .ref b58, .ref b59, .ref b60, .ref b61, .ref b62, .ref b63]))] (fun r u => r = (-1) ∧ u = [(h0, .inr (12, [.int 0, .ref b1, .int 0, .int 0, .int 0, .int 0, .ref b6, .ref b7, .ref b8, .ref b9, .ref b10, .ref b11, .ref b12, .ref b13, .ref b14, .ref b15, .ref b16, .ref b17, .int 0, .int (-1), .int (-1), .ref b21, .ref b22, .ref b23, .ref b24, .ref b25, .ref b26, .int 0, .ref b28, .ref b29, .ref b30, .ref b31, .ref b32, .ref b33, .ref b34, .ref b35, .ref b36, .int 0, .int 0, .int 0, .int 0, .int 0, .int 0, .int 0, .int 0, .int 0, .ref b46, .ref b47, .ref b48, .ref b49, .ref b50, .ref b51, .ref b52, .ref b53, .ref b54, .ref b55, .ref b56, .ref b57, .ref b58, .ref b59, .ref b60, .ref b61, .ref b62, .ref b63]))]) := by
  refine MetI.of (own := RX12) rfl (by decide) (Nat.le_of_ble_eq_true rfl) ?_
  intro p e s m below meth c A ls args Q hQ X hr hin hW hl
  have hx := X.1
  have hb := X.2.1
  have hl : lv_has ls 11 [(0, .ref h0), (1, .int p0), (2, .int p1), (3, .int p2)] := hl
  refine lv_aload_n (pc := 0) hx hb dX12_added_0 rfl (lv_at hl 0 rfl) ?_
  refine lv_iload_n (pc := 1) hx hb dX12_added_1 rfl (lv_at hl 1 rfl) ?_
  refine lv_iload_n (pc := 2) hx hb dX12_added_2 rfl (lv_at hl 2 rfl) ?_
  refine c_Vi (pc := 3) (As := [.int p0, .int p1]) (rest := []) (wr := []) X hW 0 ciX12 rfl (C_X12_isAsked l g h0 b1 b6 b7 b8 b9 b10 b11 b12 b13 b14 b15 b16 b17 b21 b22 b23 b24 b25 b26 b28 b29 b30 b31 b32 b33 b34 b35 b36 b46 b47 b48 b49 b50 b51 b52 b53 b54 b55 b56 b57 b58 b59 b60 b61 b62 b63 p0 p1) vX12_315 [0] [] rfl rfl rfl rfl rfl rfl hl.1 rfl (Nat.le_of_ble_eq_true rfl) ⟨Nat.le_of_ble_eq_true rfl, Nat.le_of_ble_eq_true rfl⟩ ⟨Nat.le_of_ble_eq_true rfl, Nat.le_of_ble_eq_true rfl⟩ dX12_added_3 (fun r1 u9 H locs hq hW => ?_)
  obtain ⟨rfl, rfl⟩ := hq
  have hW : WD g A s _ _ [(h0, .inr (12, [.int 0, .ref b1, .int 0, .int 0, .int 0, .int 0, .ref b6, .ref b7, .ref b8, .ref b9, .ref b10, .ref b11, .ref b12, .ref b13, .ref b14, .ref b15, .ref b16, .ref b17, .int 0, .int (-1), .int (-1), .ref b21, .ref b22, .ref b23, .ref b24, .ref b25, .ref b26, .int 0, .ref b28, .ref b29, .ref b30, .ref b31, .ref b32, .ref b33, .ref b34, .ref b35, .ref b36, .int 0, .int 0, .int 0, .int 0, .int 0, .int 0, .int 0, .int 0, .int 0, .ref b46, .ref b47, .ref b48, .ref b49, .ref b50, .ref b51, .ref b52, .ref b53, .ref b54, .ref b55, .ref b56, .ref b57, .ref b58, .ref b59, .ref b60, .ref b61, .ref b62, .ref b63]))] := hW
  refine lv_if_eq (tgt := 18) (pc := 6) hx hb dX12_added_6 rfl (fun c2 => ?_) (fun c2 => absurd (by decide) c2)
  refine lv_iconst (v := (-1)) (pc := 18) hx hb dX12_added_18 (by decide) ?_
  exact e_i X hQ hr hW (u := [(h0, .inr (12, [.int 0, .ref b1, .int 0, .int 0, .int 0, .int 0, .ref b6, .ref b7, .ref b8, .ref b9, .ref b10, .ref b11, .ref b12, .ref b13, .ref b14, .ref b15, .ref b16, .ref b17, .int 0, .int (-1), .int (-1), .ref b21, .ref b22, .ref b23, .ref b24, .ref b25, .ref b26, .int 0, .ref b28, .ref b29, .ref b30, .ref b31, .ref b32, .ref b33, .ref b34, .ref b35, .ref b36, .int 0, .int 0, .int 0, .int 0, .int 0, .int 0, .int 0, .int 0, .int 0, .ref b46, .ref b47, .ref b48, .ref b49, .ref b50, .ref b51, .ref b52, .ref b53, .ref b54, .ref b55, .ref b56, .ref b57, .ref b58, .ref b59, .ref b60, .ref b61, .ref b62, .ref b63]))]) [0] rfl rfl (⟨rfl, rfl⟩) ⟨Nat.le_of_ble_eq_true rfl, Nat.le_of_ble_eq_true rfl⟩ dX12_added_19

set_option maxHeartbeats 4000000 in
set_option maxRecDepth 100000 in
theorem C_X12_shut (l : Launch) (g : GG) (h0 b1 b6 b7 b8 b9 b10 b11 b12 b13 b14 b15 b16 b17 b21 b22 b23 b24 b25 b26 b28 b29 b30 b31 b32 b33 b34 b35 b36 b46 b47 b48 b49 b50 b51 b52 b53 b54 b55 b56 b57 b58 b59 b60 b61 b62 b63 : Nat) (p0 : Int32) (p1 : Int32) (p2 : Int32) (p3 : Int32) : MetI l g yX12_shut cX12_shut 9 (some .int) 2 0 0 [.ref h0, .int p0, .int p1, .int p2, .int p3] [(h0, .inr (12, [.int 0, .ref b1, .int 0, .int 0, .int 0, .int 0, .ref b6, .ref b7, .ref b8, .ref b9, .ref b10, .ref b11, .ref b12, .ref b13, .ref b14, .ref b15, .ref b16, .ref b17, .int 0, .int (-1), .int (-1), .ref b21, .ref b22, .ref b23, .ref b24, .ref b25, .ref b26, .int 0, .ref b28, .ref b29, .ref b30, .ref b31, .ref b32, .ref b33, .ref b34, .ref b35, .ref b36, .int 0, .int 0, .int 0, .int 0, .int 0, .int 0, .int 0, .int 0, .int 0, .ref b46, .ref b47, .ref b48, .ref b49, .ref b50, .ref b51, .ref b52, .ref b53, .ref b54, .ref b55, .ref b56, .ref b57, .ref b58, .ref b59, .ref b60, .ref b61, .ref b62, .ref b63]))] (fun r u => r = (-1) ∧ u = [(h0, .inr (12, [.int 0, .ref b1, .int 0, .int 0, .int 0, .int 0, .ref b6, .ref b7, .ref b8, .ref b9, .ref b10, .ref b11, .ref b12, .ref b13, .ref b14, .ref b15, .ref b16, .ref b17, .int 0, .int (-1), .int (-1), .ref b21, .ref b22, .ref b23, .ref b24, .ref b25, .ref b26, .int 0, .ref b28, .ref b29, .ref b30, .ref b31, .ref b32, .ref b33, .ref b34, .ref b35, .ref b36, .int 0, .int 0, .int 0, .int 0, .int 0, .int 0, .int 0, .int 0, .int 0, .ref b46, .ref b47, .ref b48, .ref b49, .ref b50, .ref b51, .ref b52, .ref b53, .ref b54, .ref b55, .ref b56, .ref b57, .ref b58, .ref b59, .ref b60, .ref b61, .ref b62, .ref b63]))]) := by
  refine MetI.of (own := RX12) rfl (by decide) (Nat.le_of_ble_eq_true rfl) ?_
  intro p e s m below meth c A ls args Q hQ X hr hin hW hl
  have hx := X.1
  have hb := X.2.1
  have hl : lv_has ls 9 [(0, .ref h0), (1, .int p0), (2, .int p1), (3, .int p2), (4, .int p3)] := hl
  refine lv_aload_n (pc := 0) hx hb dX12_shut_0 rfl (lv_at hl 0 rfl) ?_
  refine lv_iload_n (pc := 1) hx hb dX12_shut_1 rfl (lv_at hl 1 rfl) ?_
  refine lv_iload_n (pc := 2) hx hb dX12_shut_2 rfl (lv_at hl 2 rfl) ?_
  refine c_Vi (pc := 3) (As := [.int p0, .int p1]) (rest := []) (wr := []) X hW 0 ciX12 rfl (C_X12_isAsked l g h0 b1 b6 b7 b8 b9 b10 b11 b12 b13 b14 b15 b16 b17 b21 b22 b23 b24 b25 b26 b28 b29 b30 b31 b32 b33 b34 b35 b36 b46 b47 b48 b49 b50 b51 b52 b53 b54 b55 b56 b57 b58 b59 b60 b61 b62 b63 p0 p1) vX12_315 [0] [] rfl rfl rfl rfl rfl rfl hl.1 rfl (Nat.le_of_ble_eq_true rfl) ⟨Nat.le_of_ble_eq_true rfl, Nat.le_of_ble_eq_true rfl⟩ ⟨Nat.le_of_ble_eq_true rfl, Nat.le_of_ble_eq_true rfl⟩ dX12_shut_3 (fun r1 u9 H locs hq hW => ?_)
  obtain ⟨rfl, rfl⟩ := hq
  have hW : WD g A s _ _ [(h0, .inr (12, [.int 0, .ref b1, .int 0, .int 0, .int 0, .int 0, .ref b6, .ref b7, .ref b8, .ref b9, .ref b10, .ref b11, .ref b12, .ref b13, .ref b14, .ref b15, .ref b16, .ref b17, .int 0, .int (-1), .int (-1), .ref b21, .ref b22, .ref b23, .ref b24, .ref b25, .ref b26, .int 0, .ref b28, .ref b29, .ref b30, .ref b31, .ref b32, .ref b33, .ref b34, .ref b35, .ref b36, .int 0, .int 0, .int 0, .int 0, .int 0, .int 0, .int 0, .int 0, .int 0, .ref b46, .ref b47, .ref b48, .ref b49, .ref b50, .ref b51, .ref b52, .ref b53, .ref b54, .ref b55, .ref b56, .ref b57, .ref b58, .ref b59, .ref b60, .ref b61, .ref b62, .ref b63]))] := hW
  refine lv_if_eq (tgt := 42) (pc := 6) hx hb dX12_shut_6 rfl (fun c2 => ?_) (fun c2 => absurd (by decide) c2)
  refine lv_iconst (v := (-1)) (pc := 42) hx hb dX12_shut_42 (by decide) ?_
  exact e_i X hQ hr hW (u := [(h0, .inr (12, [.int 0, .ref b1, .int 0, .int 0, .int 0, .int 0, .ref b6, .ref b7, .ref b8, .ref b9, .ref b10, .ref b11, .ref b12, .ref b13, .ref b14, .ref b15, .ref b16, .ref b17, .int 0, .int (-1), .int (-1), .ref b21, .ref b22, .ref b23, .ref b24, .ref b25, .ref b26, .int 0, .ref b28, .ref b29, .ref b30, .ref b31, .ref b32, .ref b33, .ref b34, .ref b35, .ref b36, .int 0, .int 0, .int 0, .int 0, .int 0, .int 0, .int 0, .int 0, .int 0, .ref b46, .ref b47, .ref b48, .ref b49, .ref b50, .ref b51, .ref b52, .ref b53, .ref b54, .ref b55, .ref b56, .ref b57, .ref b58, .ref b59, .ref b60, .ref b61, .ref b62, .ref b63]))]) [0] rfl rfl (⟨rfl, rfl⟩) ⟨Nat.le_of_ble_eq_true rfl, Nat.le_of_ble_eq_true rfl⟩ dX12_shut_43

set_option maxHeartbeats 4000000 in
set_option maxRecDepth 100000 in
theorem C_X12_fewest (l : Launch) (g : GG) (h0 b1 b6 b7 b8 b9 b10 b11 b12 b13 b14 b15 b16 b17 b21 b22 b23 b24 b25 b26 b28 b29 b30 b31 b32 b33 b34 b35 b36 b46 b47 b48 b49 b50 b51 b52 b53 b54 b55 b56 b57 b58 b59 b60 b61 b62 b63 : Nat) (p0 : Int32) : MetI l g yX12_fewest cX12_fewest 2 (some .int) 1 0 0 [.ref h0, .int p0] [(h0, .inr (12, [.int 0, .ref b1, .int 0, .int 0, .int 0, .int 0, .ref b6, .ref b7, .ref b8, .ref b9, .ref b10, .ref b11, .ref b12, .ref b13, .ref b14, .ref b15, .ref b16, .ref b17, .int 0, .int (-1), .int (-1), .ref b21, .ref b22, .ref b23, .ref b24, .ref b25, .ref b26, .int 0, .ref b28, .ref b29, .ref b30, .ref b31, .ref b32, .ref b33, .ref b34, .ref b35, .ref b36, .int 0, .int 0, .int 0, .int 0, .int 0, .int 0, .int 0, .int 0, .int 0, .ref b46, .ref b47, .ref b48, .ref b49, .ref b50, .ref b51, .ref b52, .ref b53, .ref b54, .ref b55, .ref b56, .ref b57, .ref b58, .ref b59, .ref b60, .ref b61, .ref b62, .ref b63]))] (fun r u => r = (-1) ∧ u = [(h0, .inr (12, [.int 0, .ref b1, .int 0, .int 0, .int 0, .int 0, .ref b6, .ref b7, .ref b8, .ref b9, .ref b10, .ref b11, .ref b12, .ref b13, .ref b14, .ref b15, .ref b16, .ref b17, .int 0, .int (-1), .int (-1), .ref b21, .ref b22, .ref b23, .ref b24, .ref b25, .ref b26, .int 0, .ref b28, .ref b29, .ref b30, .ref b31, .ref b32, .ref b33, .ref b34, .ref b35, .ref b36, .int 0, .int 0, .int 0, .int 0, .int 0, .int 0, .int 0, .int 0, .int 0, .ref b46, .ref b47, .ref b48, .ref b49, .ref b50, .ref b51, .ref b52, .ref b53, .ref b54, .ref b55, .ref b56, .ref b57, .ref b58, .ref b59, .ref b60, .ref b61, .ref b62, .ref b63]))]) := by
  refine MetI.of (own := RX12) rfl (by decide) (Nat.le_of_ble_eq_true rfl) ?_
  intro p e s m below meth c A ls args Q hQ X hr hin hW hl
  have hx := X.1
  have hb := X.2.1
  have hl : lv_has ls 2 [(0, .ref h0), (1, .int p0)] := hl
  refine lv_aload_n (pc := 0) hx hb dX12_fewest_0 rfl (lv_at hl 0 rfl) ?_
  refine lv_iconst (v := 0) (pc := 1) hx hb dX12_fewest_1 (by decide) ?_
  refine r_put (ws' := [(h0, .inr (12, [.int 0, .ref b1, .int 0, .int 0, .int 0, .int 0, .ref b6, .ref b7, .ref b8, .ref b9, .ref b10, .ref b11, .ref b12, .ref b13, .ref b14, .ref b15, .ref b16, .ref b17, .int 0, .int (-1), .int (-1), .ref b21, .ref b22, .ref b23, .ref b24, .ref b25, .ref b26, .int 0, .ref b28, .ref b29, .ref b30, .ref b31, .ref b32, .ref b33, .ref b34, .ref b35, .ref b36, .int 0, .int 0, .int 0, .int 0, .int 0, .int 0, .int 0, .int 0, .int 0, .ref b46, .ref b47, .ref b48, .ref b49, .ref b50, .ref b51, .ref b52, .ref b53, .ref b54, .ref b55, .ref b56, .ref b57, .ref b58, .ref b59, .ref b60, .ref b61, .ref b62, .ref b63]))]) X hW 0 ciX12 0 rfl (by decide) m_1231 rfl rfl rfl rfl (Nat.le_of_ble_eq_true rfl) rfl dX12_fewest_2 (fun H locs hW => ?_)
  refine lv_aload_n (pc := 5) hx hb dX12_fewest_5 rfl (lv_at hl 0 rfl) ?_
  refine lv_iload_n (pc := 6) hx hb dX12_fewest_6 rfl (lv_at hl 1 rfl) ?_
  refine c_Vi (pc := 7) (As := [.int p0]) (rest := []) (wr := []) X hW 0 ciX12 rfl (C_X12_isValley l g h0 b1 b6 b7 b8 b9 b10 b11 b12 b13 b14 b15 b16 b17 b21 b22 b23 b24 b25 b26 b28 b29 b30 b31 b32 b33 b34 b35 b36 b46 b47 b48 b49 b50 b51 b52 b53 b54 b55 b56 b57 b58 b59 b60 b61 b62 b63 p0) vX12_221 [0] [] rfl rfl rfl rfl rfl rfl hl.1 rfl (Nat.le_of_ble_eq_true rfl) ⟨Nat.le_of_ble_eq_true rfl, Nat.le_of_ble_eq_true rfl⟩ ⟨Nat.le_of_ble_eq_true rfl, Nat.le_of_ble_eq_true rfl⟩ dX12_fewest_7 (fun r1 u9 H locs hq hW => ?_)
  obtain ⟨rfl, rfl⟩ := hq
  have hW : WD g A s _ _ [(h0, .inr (12, [.int 0, .ref b1, .int 0, .int 0, .int 0, .int 0, .ref b6, .ref b7, .ref b8, .ref b9, .ref b10, .ref b11, .ref b12, .ref b13, .ref b14, .ref b15, .ref b16, .ref b17, .int 0, .int (-1), .int (-1), .ref b21, .ref b22, .ref b23, .ref b24, .ref b25, .ref b26, .int 0, .ref b28, .ref b29, .ref b30, .ref b31, .ref b32, .ref b33, .ref b34, .ref b35, .ref b36, .int 0, .int 0, .int 0, .int 0, .int 0, .int 0, .int 0, .int 0, .int 0, .ref b46, .ref b47, .ref b48, .ref b49, .ref b50, .ref b51, .ref b52, .ref b53, .ref b54, .ref b55, .ref b56, .ref b57, .ref b58, .ref b59, .ref b60, .ref b61, .ref b62, .ref b63]))] := hW
  refine lv_if_eq (tgt := 21) (pc := 10) hx hb dX12_fewest_10 rfl (fun c2 => ?_) (fun c2 => absurd (by decide) c2)
  refine lv_iconst (v := (-1)) (pc := 21) hx hb dX12_fewest_21 (by decide) ?_
  exact e_i X hQ hr hW (u := [(h0, .inr (12, [.int 0, .ref b1, .int 0, .int 0, .int 0, .int 0, .ref b6, .ref b7, .ref b8, .ref b9, .ref b10, .ref b11, .ref b12, .ref b13, .ref b14, .ref b15, .ref b16, .ref b17, .int 0, .int (-1), .int (-1), .ref b21, .ref b22, .ref b23, .ref b24, .ref b25, .ref b26, .int 0, .ref b28, .ref b29, .ref b30, .ref b31, .ref b32, .ref b33, .ref b34, .ref b35, .ref b36, .int 0, .int 0, .int 0, .int 0, .int 0, .int 0, .int 0, .int 0, .int 0, .ref b46, .ref b47, .ref b48, .ref b49, .ref b50, .ref b51, .ref b52, .ref b53, .ref b54, .ref b55, .ref b56, .ref b57, .ref b58, .ref b59, .ref b60, .ref b61, .ref b62, .ref b63]))]) [0] rfl rfl (⟨rfl, rfl⟩) ⟨Nat.le_of_ble_eq_true rfl, Nat.le_of_ble_eq_true rfl⟩ dX12_fewest_22

set_option maxHeartbeats 4000000 in
set_option maxRecDepth 100000 in
theorem C_X12_gossip (l : Launch) (g : GG) (h0 b1 b6 b7 b8 b9 b10 b11 b12 b13 b14 b15 b16 b17 b21 b22 b23 b24 b25 b26 b28 b29 b30 b31 b32 b33 b34 b35 b36 b46 b47 b48 b49 b50 b51 b52 b53 b54 b55 b56 b57 b58 b59 b60 b61 b62 b63 : Nat) (p0 : Int32) (p1 : Int32) : MetI l g yX12_gossip cX12_gossip 4 (some .int) 1 0 0 [.ref h0, .int p0, .int p1] [(h0, .inr (12, [.int 0, .ref b1, .int 0, .int 0, .int 0, .int 0, .ref b6, .ref b7, .ref b8, .ref b9, .ref b10, .ref b11, .ref b12, .ref b13, .ref b14, .ref b15, .ref b16, .ref b17, .int 0, .int (-1), .int (-1), .ref b21, .ref b22, .ref b23, .ref b24, .ref b25, .ref b26, .int 0, .ref b28, .ref b29, .ref b30, .ref b31, .ref b32, .ref b33, .ref b34, .ref b35, .ref b36, .int 0, .int 0, .int 0, .int 0, .int 0, .int 0, .int 0, .int 0, .int 0, .ref b46, .ref b47, .ref b48, .ref b49, .ref b50, .ref b51, .ref b52, .ref b53, .ref b54, .ref b55, .ref b56, .ref b57, .ref b58, .ref b59, .ref b60, .ref b61, .ref b62, .ref b63]))] (fun r u => r = (-1) ∧ u = [(h0, .inr (12, [.int 0, .ref b1, .int 0, .int 0, .int 0, .int 0, .ref b6, .ref b7, .ref b8, .ref b9, .ref b10, .ref b11, .ref b12, .ref b13, .ref b14, .ref b15, .ref b16, .ref b17, .int 0, .int (-1), .int (-1), .ref b21, .ref b22, .ref b23, .ref b24, .ref b25, .ref b26, .int 0, .ref b28, .ref b29, .ref b30, .ref b31, .ref b32, .ref b33, .ref b34, .ref b35, .ref b36, .int 0, .int 0, .int 0, .int 0, .int 0, .int 0, .int 0, .int 0, .int 0, .ref b46, .ref b47, .ref b48, .ref b49, .ref b50, .ref b51, .ref b52, .ref b53, .ref b54, .ref b55, .ref b56, .ref b57, .ref b58, .ref b59, .ref b60, .ref b61, .ref b62, .ref b63]))]) := by
  refine MetI.of (own := RX12) rfl (by decide) (Nat.le_of_ble_eq_true rfl) ?_
  intro p e s m below meth c A ls args Q hQ X hr hin hW hl
  have hx := X.1
  have hb := X.2.1
  have hl : lv_has ls 4 [(0, .ref h0), (1, .int p0), (2, .int p1)] := hl
  refine lv_aload_n (pc := 0) hx hb dX12_gossip_0 rfl (lv_at hl 0 rfl) ?_
  refine lv_iconst (v := 0) (pc := 1) hx hb dX12_gossip_1 (by decide) ?_
  refine r_put (ws' := [(h0, .inr (12, [.int 0, .ref b1, .int 0, .int 0, .int 0, .int 0, .ref b6, .ref b7, .ref b8, .ref b9, .ref b10, .ref b11, .ref b12, .ref b13, .ref b14, .ref b15, .ref b16, .ref b17, .int 0, .int (-1), .int (-1), .ref b21, .ref b22, .ref b23, .ref b24, .ref b25, .ref b26, .int 0, .ref b28, .ref b29, .ref b30, .ref b31, .ref b32, .ref b33, .ref b34, .ref b35, .ref b36, .int 0, .int 0, .int 0, .int 0, .int 0, .int 0, .int 0, .int 0, .int 0, .ref b46, .ref b47, .ref b48, .ref b49, .ref b50, .ref b51, .ref b52, .ref b53, .ref b54, .ref b55, .ref b56, .ref b57, .ref b58, .ref b59, .ref b60, .ref b61, .ref b62, .ref b63]))]) X hW 0 ciX12 0 rfl (by decide) m_1231 rfl rfl rfl rfl (Nat.le_of_ble_eq_true rfl) rfl dX12_gossip_2 (fun H locs hW => ?_)
  refine lv_aload_n (pc := 5) hx hb dX12_gossip_5 rfl (lv_at hl 0 rfl) ?_
  refine lv_iload_n (pc := 6) hx hb dX12_gossip_6 rfl (lv_at hl 1 rfl) ?_
  refine c_Vi (pc := 7) (As := [.int p0]) (rest := []) (wr := []) X hW 0 ciX12 rfl (C_X12_isValley l g h0 b1 b6 b7 b8 b9 b10 b11 b12 b13 b14 b15 b16 b17 b21 b22 b23 b24 b25 b26 b28 b29 b30 b31 b32 b33 b34 b35 b36 b46 b47 b48 b49 b50 b51 b52 b53 b54 b55 b56 b57 b58 b59 b60 b61 b62 b63 p0) vX12_221 [0] [] rfl rfl rfl rfl rfl rfl hl.1 rfl (Nat.le_of_ble_eq_true rfl) ⟨Nat.le_of_ble_eq_true rfl, Nat.le_of_ble_eq_true rfl⟩ ⟨Nat.le_of_ble_eq_true rfl, Nat.le_of_ble_eq_true rfl⟩ dX12_gossip_7 (fun r1 u9 H locs hq hW => ?_)
  obtain ⟨rfl, rfl⟩ := hq
  have hW : WD g A s _ _ [(h0, .inr (12, [.int 0, .ref b1, .int 0, .int 0, .int 0, .int 0, .ref b6, .ref b7, .ref b8, .ref b9, .ref b10, .ref b11, .ref b12, .ref b13, .ref b14, .ref b15, .ref b16, .ref b17, .int 0, .int (-1), .int (-1), .ref b21, .ref b22, .ref b23, .ref b24, .ref b25, .ref b26, .int 0, .ref b28, .ref b29, .ref b30, .ref b31, .ref b32, .ref b33, .ref b34, .ref b35, .ref b36, .int 0, .int 0, .int 0, .int 0, .int 0, .int 0, .int 0, .int 0, .int 0, .ref b46, .ref b47, .ref b48, .ref b49, .ref b50, .ref b51, .ref b52, .ref b53, .ref b54, .ref b55, .ref b56, .ref b57, .ref b58, .ref b59, .ref b60, .ref b61, .ref b62, .ref b63]))] := hW
  refine lv_if_ne (tgt := 15) (pc := 10) hx hb dX12_gossip_10 rfl (fun c2 => absurd (by decide) c2) (fun c2 => ?_)
  refine lv_iconst (v := (-1)) (pc := 13) hx hb dX12_gossip_13 (by decide) ?_
  exact e_i X hQ hr hW (u := [(h0, .inr (12, [.int 0, .ref b1, .int 0, .int 0, .int 0, .int 0, .ref b6, .ref b7, .ref b8, .ref b9, .ref b10, .ref b11, .ref b12, .ref b13, .ref b14, .ref b15, .ref b16, .ref b17, .int 0, .int (-1), .int (-1), .ref b21, .ref b22, .ref b23, .ref b24, .ref b25, .ref b26, .int 0, .ref b28, .ref b29, .ref b30, .ref b31, .ref b32, .ref b33, .ref b34, .ref b35, .ref b36, .int 0, .int 0, .int 0, .int 0, .int 0, .int 0, .int 0, .int 0, .int 0, .ref b46, .ref b47, .ref b48, .ref b49, .ref b50, .ref b51, .ref b52, .ref b53, .ref b54, .ref b55, .ref b56, .ref b57, .ref b58, .ref b59, .ref b60, .ref b61, .ref b62, .ref b63]))]) [0] rfl rfl (⟨rfl, rfl⟩) ⟨Nat.le_of_ble_eq_true rfl, Nat.le_of_ble_eq_true rfl⟩ dX12_gossip_14

set_option maxHeartbeats 4000000 in
set_option maxRecDepth 100000 in
theorem C_X12_ends (l : Launch) (g : GG) (h0 b1 b6 b7 b8 b9 b10 b11 b12 b13 b14 b15 b16 b17 b21 b22 b23 b24 b25 b26 b28 b29 b30 b31 b32 b33 b34 b35 b36 b46 b47 b48 b49 b50 b51 b52 b53 b54 b55 b56 b57 b58 b59 b60 b61 b62 b63 : Nat) (p0 : Int32) (p1 : Int32) : MetI l g yX12_ends cX12_ends 4 (some .int) 1 0 0 [.ref h0, .int p0, .int p1] [(h0, .inr (12, [.int 0, .ref b1, .int 0, .int 0, .int 0, .int 0, .ref b6, .ref b7, .ref b8, .ref b9, .ref b10, .ref b11, .ref b12, .ref b13, .ref b14, .ref b15, .ref b16, .ref b17, .int 0, .int (-1), .int (-1), .ref b21, .ref b22, .ref b23, .ref b24, .ref b25, .ref b26, .int 0, .ref b28, .ref b29, .ref b30, .ref b31, .ref b32, .ref b33, .ref b34, .ref b35, .ref b36, .int 0, .int 0, .int 0, .int 0, .int 0, .int 0, .int 0, .int 0, .int 0, .ref b46, .ref b47, .ref b48, .ref b49, .ref b50, .ref b51, .ref b52, .ref b53, .ref b54, .ref b55, .ref b56, .ref b57, .ref b58, .ref b59, .ref b60, .ref b61, .ref b62, .ref b63]))] (fun r u => r = (-1) ∧ u = [(h0, .inr (12, [.int 0, .ref b1, .int 0, .int 0, .int 0, .int 0, .ref b6, .ref b7, .ref b8, .ref b9, .ref b10, .ref b11, .ref b12, .ref b13, .ref b14, .ref b15, .ref b16, .ref b17, .int 0, .int (-1), .int (-1), .ref b21, .ref b22, .ref b23, .ref b24, .ref b25, .ref b26, .int 0, .ref b28, .ref b29, .ref b30, .ref b31, .ref b32, .ref b33, .ref b34, .ref b35, .ref b36, .int 0, .int 0, .int 0, .int 0, .int 0, .int 0, .int 0, .int 0, .int 0, .ref b46, .ref b47, .ref b48, .ref b49, .ref b50, .ref b51, .ref b52, .ref b53, .ref b54, .ref b55, .ref b56, .ref b57, .ref b58, .ref b59, .ref b60, .ref b61, .ref b62, .ref b63]))]) := by
  refine MetI.of (own := RX12) rfl (by decide) (Nat.le_of_ble_eq_true rfl) ?_
  intro p e s m below meth c A ls args Q hQ X hr hin hW hl
  have hx := X.1
  have hb := X.2.1
  have hl : lv_has ls 4 [(0, .ref h0), (1, .int p0), (2, .int p1)] := hl
  refine lv_aload_n (pc := 0) hx hb dX12_ends_0 rfl (lv_at hl 0 rfl) ?_
  refine lv_iconst (v := 0) (pc := 1) hx hb dX12_ends_1 (by decide) ?_
  refine r_put (ws' := [(h0, .inr (12, [.int 0, .ref b1, .int 0, .int 0, .int 0, .int 0, .ref b6, .ref b7, .ref b8, .ref b9, .ref b10, .ref b11, .ref b12, .ref b13, .ref b14, .ref b15, .ref b16, .ref b17, .int 0, .int (-1), .int (-1), .ref b21, .ref b22, .ref b23, .ref b24, .ref b25, .ref b26, .int 0, .ref b28, .ref b29, .ref b30, .ref b31, .ref b32, .ref b33, .ref b34, .ref b35, .ref b36, .int 0, .int 0, .int 0, .int 0, .int 0, .int 0, .int 0, .int 0, .int 0, .ref b46, .ref b47, .ref b48, .ref b49, .ref b50, .ref b51, .ref b52, .ref b53, .ref b54, .ref b55, .ref b56, .ref b57, .ref b58, .ref b59, .ref b60, .ref b61, .ref b62, .ref b63]))]) X hW 0 ciX12 0 rfl (by decide) m_1231 rfl rfl rfl rfl (Nat.le_of_ble_eq_true rfl) rfl dX12_ends_2 (fun H locs hW => ?_)
  refine lv_aload_n (pc := 5) hx hb dX12_ends_5 rfl (lv_at hl 0 rfl) ?_
  refine lv_iload_n (pc := 6) hx hb dX12_ends_6 rfl (lv_at hl 1 rfl) ?_
  refine c_Vi (pc := 7) (As := [.int p0]) (rest := []) (wr := []) X hW 0 ciX12 rfl (C_X12_isValley l g h0 b1 b6 b7 b8 b9 b10 b11 b12 b13 b14 b15 b16 b17 b21 b22 b23 b24 b25 b26 b28 b29 b30 b31 b32 b33 b34 b35 b36 b46 b47 b48 b49 b50 b51 b52 b53 b54 b55 b56 b57 b58 b59 b60 b61 b62 b63 p0) vX12_221 [0] [] rfl rfl rfl rfl rfl rfl hl.1 rfl (Nat.le_of_ble_eq_true rfl) ⟨Nat.le_of_ble_eq_true rfl, Nat.le_of_ble_eq_true rfl⟩ ⟨Nat.le_of_ble_eq_true rfl, Nat.le_of_ble_eq_true rfl⟩ dX12_ends_7 (fun r1 u9 H locs hq hW => ?_)
  obtain ⟨rfl, rfl⟩ := hq
  have hW : WD g A s _ _ [(h0, .inr (12, [.int 0, .ref b1, .int 0, .int 0, .int 0, .int 0, .ref b6, .ref b7, .ref b8, .ref b9, .ref b10, .ref b11, .ref b12, .ref b13, .ref b14, .ref b15, .ref b16, .ref b17, .int 0, .int (-1), .int (-1), .ref b21, .ref b22, .ref b23, .ref b24, .ref b25, .ref b26, .int 0, .ref b28, .ref b29, .ref b30, .ref b31, .ref b32, .ref b33, .ref b34, .ref b35, .ref b36, .int 0, .int 0, .int 0, .int 0, .int 0, .int 0, .int 0, .int 0, .int 0, .ref b46, .ref b47, .ref b48, .ref b49, .ref b50, .ref b51, .ref b52, .ref b53, .ref b54, .ref b55, .ref b56, .ref b57, .ref b58, .ref b59, .ref b60, .ref b61, .ref b62, .ref b63]))] := hW
  refine lv_if_eq (tgt := 30) (pc := 10) hx hb dX12_ends_10 rfl (fun c2 => ?_) (fun c2 => absurd (by decide) c2)
  refine lv_iconst (v := (-1)) (pc := 30) hx hb dX12_ends_30 (by decide) ?_
  exact e_i X hQ hr hW (u := [(h0, .inr (12, [.int 0, .ref b1, .int 0, .int 0, .int 0, .int 0, .ref b6, .ref b7, .ref b8, .ref b9, .ref b10, .ref b11, .ref b12, .ref b13, .ref b14, .ref b15, .ref b16, .ref b17, .int 0, .int (-1), .int (-1), .ref b21, .ref b22, .ref b23, .ref b24, .ref b25, .ref b26, .int 0, .ref b28, .ref b29, .ref b30, .ref b31, .ref b32, .ref b33, .ref b34, .ref b35, .ref b36, .int 0, .int 0, .int 0, .int 0, .int 0, .int 0, .int 0, .int 0, .int 0, .ref b46, .ref b47, .ref b48, .ref b49, .ref b50, .ref b51, .ref b52, .ref b53, .ref b54, .ref b55, .ref b56, .ref b57, .ref b58, .ref b59, .ref b60, .ref b61, .ref b62, .ref b63]))]) [0] rfl rfl (⟨rfl, rfl⟩) ⟨Nat.le_of_ble_eq_true rfl, Nat.le_of_ble_eq_true rfl⟩ dX12_ends_31

set_option maxHeartbeats 4000000 in
set_option maxRecDepth 100000 in
theorem C_X12_trade (l : Launch) (g : GG) (h0 b1 b6 b7 b8 b9 b10 b11 b12 b13 b14 b15 b16 b17 b21 b22 b23 b24 b25 b26 b28 b29 b30 b31 b32 b33 b34 b35 b36 b46 b47 b48 b49 b50 b51 b52 b53 b54 b55 b56 b57 b58 b59 b60 b61 b62 b63 : Nat) (p0 : Int32) (p1 : Int32) (p2 : Int32) : MetI l g yX12_trade cX12_trade 6 (some .int) 1 0 0 [.ref h0, .int p0, .int p1, .int p2] [(h0, .inr (12, [.int 0, .ref b1, .int 0, .int 0, .int 0, .int 0, .ref b6, .ref b7, .ref b8, .ref b9, .ref b10, .ref b11, .ref b12, .ref b13, .ref b14, .ref b15, .ref b16, .ref b17, .int 0, .int (-1), .int (-1), .ref b21, .ref b22, .ref b23, .ref b24, .ref b25, .ref b26, .int 0, .ref b28, .ref b29, .ref b30, .ref b31, .ref b32, .ref b33, .ref b34, .ref b35, .ref b36, .int 0, .int 0, .int 0, .int 0, .int 0, .int 0, .int 0, .int 0, .int 0, .ref b46, .ref b47, .ref b48, .ref b49, .ref b50, .ref b51, .ref b52, .ref b53, .ref b54, .ref b55, .ref b56, .ref b57, .ref b58, .ref b59, .ref b60, .ref b61, .ref b62, .ref b63]))] (fun r u => r = (-1) ∧ u = [(h0, .inr (12, [.int 0, .ref b1, .int 0, .int 0, .int 0, .int 0, .ref b6, .ref b7, .ref b8, .ref b9, .ref b10, .ref b11, .ref b12, .ref b13, .ref b14, .ref b15, .ref b16, .ref b17, .int 0, .int (-1), .int (-1), .ref b21, .ref b22, .ref b23, .ref b24, .ref b25, .ref b26, .int 0, .ref b28, .ref b29, .ref b30, .ref b31, .ref b32, .ref b33, .ref b34, .ref b35, .ref b36, .int 0, .int 0, .int 0, .int 0, .int 0, .int 0, .int 0, .int 0, .int 0, .ref b46, .ref b47, .ref b48, .ref b49, .ref b50, .ref b51, .ref b52, .ref b53, .ref b54, .ref b55, .ref b56, .ref b57, .ref b58, .ref b59, .ref b60, .ref b61, .ref b62, .ref b63]))]) := by
  refine MetI.of (own := RX12) rfl (by decide) (Nat.le_of_ble_eq_true rfl) ?_
  intro p e s m below meth c A ls args Q hQ X hr hin hW hl
  have hx := X.1
  have hb := X.2.1
  have hl : lv_has ls 6 [(0, .ref h0), (1, .int p0), (2, .int p1), (3, .int p2)] := hl
  refine lv_aload_n (pc := 0) hx hb dX12_trade_0 rfl (lv_at hl 0 rfl) ?_
  refine lv_iconst (v := 0) (pc := 1) hx hb dX12_trade_1 (by decide) ?_
  refine r_put (ws' := [(h0, .inr (12, [.int 0, .ref b1, .int 0, .int 0, .int 0, .int 0, .ref b6, .ref b7, .ref b8, .ref b9, .ref b10, .ref b11, .ref b12, .ref b13, .ref b14, .ref b15, .ref b16, .ref b17, .int 0, .int (-1), .int (-1), .ref b21, .ref b22, .ref b23, .ref b24, .ref b25, .ref b26, .int 0, .ref b28, .ref b29, .ref b30, .ref b31, .ref b32, .ref b33, .ref b34, .ref b35, .ref b36, .int 0, .int 0, .int 0, .int 0, .int 0, .int 0, .int 0, .int 0, .int 0, .ref b46, .ref b47, .ref b48, .ref b49, .ref b50, .ref b51, .ref b52, .ref b53, .ref b54, .ref b55, .ref b56, .ref b57, .ref b58, .ref b59, .ref b60, .ref b61, .ref b62, .ref b63]))]) X hW 0 ciX12 0 rfl (by decide) m_1231 rfl rfl rfl rfl (Nat.le_of_ble_eq_true rfl) rfl dX12_trade_2 (fun H locs hW => ?_)
  refine lv_aload_n (pc := 5) hx hb dX12_trade_5 rfl (lv_at hl 0 rfl) ?_
  refine lv_iload_n (pc := 6) hx hb dX12_trade_6 rfl (lv_at hl 1 rfl) ?_
  refine c_Vi (pc := 7) (As := [.int p0]) (rest := []) (wr := []) X hW 0 ciX12 rfl (C_X12_isValley l g h0 b1 b6 b7 b8 b9 b10 b11 b12 b13 b14 b15 b16 b17 b21 b22 b23 b24 b25 b26 b28 b29 b30 b31 b32 b33 b34 b35 b36 b46 b47 b48 b49 b50 b51 b52 b53 b54 b55 b56 b57 b58 b59 b60 b61 b62 b63 p0) vX12_221 [0] [] rfl rfl rfl rfl rfl rfl hl.1 rfl (Nat.le_of_ble_eq_true rfl) ⟨Nat.le_of_ble_eq_true rfl, Nat.le_of_ble_eq_true rfl⟩ ⟨Nat.le_of_ble_eq_true rfl, Nat.le_of_ble_eq_true rfl⟩ dX12_trade_7 (fun r1 u9 H locs hq hW => ?_)
  obtain ⟨rfl, rfl⟩ := hq
  have hW : WD g A s _ _ [(h0, .inr (12, [.int 0, .ref b1, .int 0, .int 0, .int 0, .int 0, .ref b6, .ref b7, .ref b8, .ref b9, .ref b10, .ref b11, .ref b12, .ref b13, .ref b14, .ref b15, .ref b16, .ref b17, .int 0, .int (-1), .int (-1), .ref b21, .ref b22, .ref b23, .ref b24, .ref b25, .ref b26, .int 0, .ref b28, .ref b29, .ref b30, .ref b31, .ref b32, .ref b33, .ref b34, .ref b35, .ref b36, .int 0, .int 0, .int 0, .int 0, .int 0, .int 0, .int 0, .int 0, .int 0, .ref b46, .ref b47, .ref b48, .ref b49, .ref b50, .ref b51, .ref b52, .ref b53, .ref b54, .ref b55, .ref b56, .ref b57, .ref b58, .ref b59, .ref b60, .ref b61, .ref b62, .ref b63]))] := hW
  refine lv_if_eq (tgt := 42) (pc := 10) hx hb dX12_trade_10 rfl (fun c2 => ?_) (fun c2 => absurd (by decide) c2)
  refine lv_iconst (v := (-1)) (pc := 42) hx hb dX12_trade_42 (by decide) ?_
  exact e_i X hQ hr hW (u := [(h0, .inr (12, [.int 0, .ref b1, .int 0, .int 0, .int 0, .int 0, .ref b6, .ref b7, .ref b8, .ref b9, .ref b10, .ref b11, .ref b12, .ref b13, .ref b14, .ref b15, .ref b16, .ref b17, .int 0, .int (-1), .int (-1), .ref b21, .ref b22, .ref b23, .ref b24, .ref b25, .ref b26, .int 0, .ref b28, .ref b29, .ref b30, .ref b31, .ref b32, .ref b33, .ref b34, .ref b35, .ref b36, .int 0, .int 0, .int 0, .int 0, .int 0, .int 0, .int 0, .int 0, .int 0, .ref b46, .ref b47, .ref b48, .ref b49, .ref b50, .ref b51, .ref b52, .ref b53, .ref b54, .ref b55, .ref b56, .ref b57, .ref b58, .ref b59, .ref b60, .ref b61, .ref b62, .ref b63]))]) [0] rfl rfl (⟨rfl, rfl⟩) ⟨Nat.le_of_ble_eq_true rfl, Nat.le_of_ble_eq_true rfl⟩ dX12_trade_43

set_option maxHeartbeats 4000000 in
set_option maxRecDepth 100000 in
theorem C_X12_card (l : Launch) (g : GG) (h0 b1 b6 b7 b8 b9 b10 b11 b12 b13 b14 b15 b16 b17 b21 b22 b23 b24 b25 b26 b28 b29 b30 b31 b32 b33 b34 b35 b36 b46 b47 b48 b49 b50 b51 b52 b53 b54 b55 b56 b57 b58 b59 b60 b61 b62 b63 : Nat) (p0 : Int32) (p1 : Int32) (p2 : Int32) : MetI l g yX12_card cX12_card 5 (some .int) 1 0 0 [.ref h0, .int p0, .int p1, .int p2] [(h0, .inr (12, [.int 0, .ref b1, .int 0, .int 0, .int 0, .int 0, .ref b6, .ref b7, .ref b8, .ref b9, .ref b10, .ref b11, .ref b12, .ref b13, .ref b14, .ref b15, .ref b16, .ref b17, .int 0, .int (-1), .int (-1), .ref b21, .ref b22, .ref b23, .ref b24, .ref b25, .ref b26, .int 0, .ref b28, .ref b29, .ref b30, .ref b31, .ref b32, .ref b33, .ref b34, .ref b35, .ref b36, .int 0, .int 0, .int 0, .int 0, .int 0, .int 0, .int 0, .int 0, .int 0, .ref b46, .ref b47, .ref b48, .ref b49, .ref b50, .ref b51, .ref b52, .ref b53, .ref b54, .ref b55, .ref b56, .ref b57, .ref b58, .ref b59, .ref b60, .ref b61, .ref b62, .ref b63]))] (fun r u => r = (-1) ∧ u = [(h0, .inr (12, [.int 0, .ref b1, .int 0, .int 0, .int 0, .int 0, .ref b6, .ref b7, .ref b8, .ref b9, .ref b10, .ref b11, .ref b12, .ref b13, .ref b14, .ref b15, .ref b16, .ref b17, .int 0, .int (-1), .int (-1), .ref b21, .ref b22, .ref b23, .ref b24, .ref b25, .ref b26, .int 0, .ref b28, .ref b29, .ref b30, .ref b31, .ref b32, .ref b33, .ref b34, .ref b35, .ref b36, .int 0, .int 0, .int 0, .int 0, .int 0, .int 0, .int 0, .int 0, .int 0, .ref b46, .ref b47, .ref b48, .ref b49, .ref b50, .ref b51, .ref b52, .ref b53, .ref b54, .ref b55, .ref b56, .ref b57, .ref b58, .ref b59, .ref b60, .ref b61, .ref b62, .ref b63]))]) := by
  refine MetI.of (own := RX12) rfl (by decide) (Nat.le_of_ble_eq_true rfl) ?_
  intro p e s m below meth c A ls args Q hQ X hr hin hW hl
  have hx := X.1
  have hb := X.2.1
  have hl : lv_has ls 5 [(0, .ref h0), (1, .int p0), (2, .int p1), (3, .int p2)] := hl
  refine lv_aload_n (pc := 0) hx hb dX12_card_0 rfl (lv_at hl 0 rfl) ?_
  refine lv_iconst (v := 0) (pc := 1) hx hb dX12_card_1 (by decide) ?_
  refine r_put (ws' := [(h0, .inr (12, [.int 0, .ref b1, .int 0, .int 0, .int 0, .int 0, .ref b6, .ref b7, .ref b8, .ref b9, .ref b10, .ref b11, .ref b12, .ref b13, .ref b14, .ref b15, .ref b16, .ref b17, .int 0, .int (-1), .int (-1), .ref b21, .ref b22, .ref b23, .ref b24, .ref b25, .ref b26, .int 0, .ref b28, .ref b29, .ref b30, .ref b31, .ref b32, .ref b33, .ref b34, .ref b35, .ref b36, .int 0, .int 0, .int 0, .int 0, .int 0, .int 0, .int 0, .int 0, .int 0, .ref b46, .ref b47, .ref b48, .ref b49, .ref b50, .ref b51, .ref b52, .ref b53, .ref b54, .ref b55, .ref b56, .ref b57, .ref b58, .ref b59, .ref b60, .ref b61, .ref b62, .ref b63]))]) X hW 0 ciX12 0 rfl (by decide) m_1231 rfl rfl rfl rfl (Nat.le_of_ble_eq_true rfl) rfl dX12_card_2 (fun H locs hW => ?_)
  refine lv_aload_n (pc := 5) hx hb dX12_card_5 rfl (lv_at hl 0 rfl) ?_
  refine lv_iload_n (pc := 6) hx hb dX12_card_6 rfl (lv_at hl 1 rfl) ?_
  refine c_Vi (pc := 7) (As := [.int p0]) (rest := []) (wr := []) X hW 0 ciX12 rfl (C_X12_isValley l g h0 b1 b6 b7 b8 b9 b10 b11 b12 b13 b14 b15 b16 b17 b21 b22 b23 b24 b25 b26 b28 b29 b30 b31 b32 b33 b34 b35 b36 b46 b47 b48 b49 b50 b51 b52 b53 b54 b55 b56 b57 b58 b59 b60 b61 b62 b63 p0) vX12_221 [0] [] rfl rfl rfl rfl rfl rfl hl.1 rfl (Nat.le_of_ble_eq_true rfl) ⟨Nat.le_of_ble_eq_true rfl, Nat.le_of_ble_eq_true rfl⟩ ⟨Nat.le_of_ble_eq_true rfl, Nat.le_of_ble_eq_true rfl⟩ dX12_card_7 (fun r1 u9 H locs hq hW => ?_)
  obtain ⟨rfl, rfl⟩ := hq
  have hW : WD g A s _ _ [(h0, .inr (12, [.int 0, .ref b1, .int 0, .int 0, .int 0, .int 0, .ref b6, .ref b7, .ref b8, .ref b9, .ref b10, .ref b11, .ref b12, .ref b13, .ref b14, .ref b15, .ref b16, .ref b17, .int 0, .int (-1), .int (-1), .ref b21, .ref b22, .ref b23, .ref b24, .ref b25, .ref b26, .int 0, .ref b28, .ref b29, .ref b30, .ref b31, .ref b32, .ref b33, .ref b34, .ref b35, .ref b36, .int 0, .int 0, .int 0, .int 0, .int 0, .int 0, .int 0, .int 0, .int 0, .ref b46, .ref b47, .ref b48, .ref b49, .ref b50, .ref b51, .ref b52, .ref b53, .ref b54, .ref b55, .ref b56, .ref b57, .ref b58, .ref b59, .ref b60, .ref b61, .ref b62, .ref b63]))] := hW
  refine lv_if_eq (tgt := 52) (pc := 10) hx hb dX12_card_10 rfl (fun c2 => ?_) (fun c2 => absurd (by decide) c2)
  refine lv_iconst (v := (-1)) (pc := 52) hx hb dX12_card_52 (by decide) ?_
  exact e_i X hQ hr hW (u := [(h0, .inr (12, [.int 0, .ref b1, .int 0, .int 0, .int 0, .int 0, .ref b6, .ref b7, .ref b8, .ref b9, .ref b10, .ref b11, .ref b12, .ref b13, .ref b14, .ref b15, .ref b16, .ref b17, .int 0, .int (-1), .int (-1), .ref b21, .ref b22, .ref b23, .ref b24, .ref b25, .ref b26, .int 0, .ref b28, .ref b29, .ref b30, .ref b31, .ref b32, .ref b33, .ref b34, .ref b35, .ref b36, .int 0, .int 0, .int 0, .int 0, .int 0, .int 0, .int 0, .int 0, .int 0, .ref b46, .ref b47, .ref b48, .ref b49, .ref b50, .ref b51, .ref b52, .ref b53, .ref b54, .ref b55, .ref b56, .ref b57, .ref b58, .ref b59, .ref b60, .ref b61, .ref b62, .ref b63]))]) [0] rfl rfl (⟨rfl, rfl⟩) ⟨Nat.le_of_ble_eq_true rfl, Nat.le_of_ble_eq_true rfl⟩ dX12_card_53

set_option maxHeartbeats 4000000 in
set_option maxRecDepth 100000 in
theorem C_X12_blank (l : Launch) (g : GG) (h0 b1 b6 b7 b8 b9 b10 b11 b12 b13 b14 b15 b16 b17 b21 b22 b23 b24 b25 b26 b28 b29 b30 b31 b32 b33 b34 b35 b36 b46 b47 b48 b49 b50 b51 b52 b53 b54 b55 b56 b57 b58 b59 b60 b61 b62 b63 : Nat) (p0 : Int32) : MetI l g yX12_blank cX12_blank 3 (some .boolean) 1 0 0 [.ref h0, .int p0] [(h0, .inr (12, [.int 0, .ref b1, .int 0, .int 0, .int 0, .int 0, .ref b6, .ref b7, .ref b8, .ref b9, .ref b10, .ref b11, .ref b12, .ref b13, .ref b14, .ref b15, .ref b16, .ref b17, .int 0, .int (-1), .int (-1), .ref b21, .ref b22, .ref b23, .ref b24, .ref b25, .ref b26, .int 0, .ref b28, .ref b29, .ref b30, .ref b31, .ref b32, .ref b33, .ref b34, .ref b35, .ref b36, .int 0, .int 0, .int 0, .int 0, .int 0, .int 0, .int 0, .int 0, .int 0, .ref b46, .ref b47, .ref b48, .ref b49, .ref b50, .ref b51, .ref b52, .ref b53, .ref b54, .ref b55, .ref b56, .ref b57, .ref b58, .ref b59, .ref b60, .ref b61, .ref b62, .ref b63]))] (fun r u => r = 0 ∧ u = [(h0, .inr (12, [.int 0, .ref b1, .int 0, .int 0, .int 0, .int 0, .ref b6, .ref b7, .ref b8, .ref b9, .ref b10, .ref b11, .ref b12, .ref b13, .ref b14, .ref b15, .ref b16, .ref b17, .int 0, .int (-1), .int (-1), .ref b21, .ref b22, .ref b23, .ref b24, .ref b25, .ref b26, .int 0, .ref b28, .ref b29, .ref b30, .ref b31, .ref b32, .ref b33, .ref b34, .ref b35, .ref b36, .int 0, .int 0, .int 0, .int 0, .int 0, .int 0, .int 0, .int 0, .int 0, .ref b46, .ref b47, .ref b48, .ref b49, .ref b50, .ref b51, .ref b52, .ref b53, .ref b54, .ref b55, .ref b56, .ref b57, .ref b58, .ref b59, .ref b60, .ref b61, .ref b62, .ref b63]))]) := by
  refine MetI.of (own := RX12) rfl (by decide) (Nat.le_of_ble_eq_true rfl) ?_
  intro p e s m below meth c A ls args Q hQ X hr hin hW hl
  have hx := X.1
  have hb := X.2.1
  have hl : lv_has ls 3 [(0, .ref h0), (1, .int p0)] := hl
  refine lv_aload_n (pc := 0) hx hb dX12_blank_0 rfl (lv_at hl 0 rfl) ?_
  refine lv_iconst (v := 0) (pc := 1) hx hb dX12_blank_1 (by decide) ?_
  refine r_put (ws' := [(h0, .inr (12, [.int 0, .ref b1, .int 0, .int 0, .int 0, .int 0, .ref b6, .ref b7, .ref b8, .ref b9, .ref b10, .ref b11, .ref b12, .ref b13, .ref b14, .ref b15, .ref b16, .ref b17, .int 0, .int (-1), .int (-1), .ref b21, .ref b22, .ref b23, .ref b24, .ref b25, .ref b26, .int 0, .ref b28, .ref b29, .ref b30, .ref b31, .ref b32, .ref b33, .ref b34, .ref b35, .ref b36, .int 0, .int 0, .int 0, .int 0, .int 0, .int 0, .int 0, .int 0, .int 0, .ref b46, .ref b47, .ref b48, .ref b49, .ref b50, .ref b51, .ref b52, .ref b53, .ref b54, .ref b55, .ref b56, .ref b57, .ref b58, .ref b59, .ref b60, .ref b61, .ref b62, .ref b63]))]) X hW 0 ciX12 0 rfl (by decide) m_1231 rfl rfl rfl rfl (Nat.le_of_ble_eq_true rfl) rfl dX12_blank_2 (fun H locs hW => ?_)
  refine lv_aload_n (pc := 5) hx hb dX12_blank_5 rfl (lv_at hl 0 rfl) ?_
  refine lv_iload_n (pc := 6) hx hb dX12_blank_6 rfl (lv_at hl 1 rfl) ?_
  refine c_Vi (pc := 7) (As := [.int p0]) (rest := []) (wr := []) X hW 0 ciX12 rfl (C_X12_isValley l g h0 b1 b6 b7 b8 b9 b10 b11 b12 b13 b14 b15 b16 b17 b21 b22 b23 b24 b25 b26 b28 b29 b30 b31 b32 b33 b34 b35 b36 b46 b47 b48 b49 b50 b51 b52 b53 b54 b55 b56 b57 b58 b59 b60 b61 b62 b63 p0) vX12_221 [0] [] rfl rfl rfl rfl rfl rfl hl.1 rfl (Nat.le_of_ble_eq_true rfl) ⟨Nat.le_of_ble_eq_true rfl, Nat.le_of_ble_eq_true rfl⟩ ⟨Nat.le_of_ble_eq_true rfl, Nat.le_of_ble_eq_true rfl⟩ dX12_blank_7 (fun r1 u9 H locs hq hW => ?_)
  obtain ⟨rfl, rfl⟩ := hq
  have hW : WD g A s _ _ [(h0, .inr (12, [.int 0, .ref b1, .int 0, .int 0, .int 0, .int 0, .ref b6, .ref b7, .ref b8, .ref b9, .ref b10, .ref b11, .ref b12, .ref b13, .ref b14, .ref b15, .ref b16, .ref b17, .int 0, .int (-1), .int (-1), .ref b21, .ref b22, .ref b23, .ref b24, .ref b25, .ref b26, .int 0, .ref b28, .ref b29, .ref b30, .ref b31, .ref b32, .ref b33, .ref b34, .ref b35, .ref b36, .int 0, .int 0, .int 0, .int 0, .int 0, .int 0, .int 0, .int 0, .int 0, .ref b46, .ref b47, .ref b48, .ref b49, .ref b50, .ref b51, .ref b52, .ref b53, .ref b54, .ref b55, .ref b56, .ref b57, .ref b58, .ref b59, .ref b60, .ref b61, .ref b62, .ref b63]))] := hW
  refine lv_if_ne (tgt := 15) (pc := 10) hx hb dX12_blank_10 rfl (fun c2 => absurd (by decide) c2) (fun c2 => ?_)
  refine lv_iconst (v := 0) (pc := 13) hx hb dX12_blank_13 (by decide) ?_
  exact e_z X hQ hr hW (u := [(h0, .inr (12, [.int 0, .ref b1, .int 0, .int 0, .int 0, .int 0, .ref b6, .ref b7, .ref b8, .ref b9, .ref b10, .ref b11, .ref b12, .ref b13, .ref b14, .ref b15, .ref b16, .ref b17, .int 0, .int (-1), .int (-1), .ref b21, .ref b22, .ref b23, .ref b24, .ref b25, .ref b26, .int 0, .ref b28, .ref b29, .ref b30, .ref b31, .ref b32, .ref b33, .ref b34, .ref b35, .ref b36, .int 0, .int 0, .int 0, .int 0, .int 0, .int 0, .int 0, .int 0, .int 0, .ref b46, .ref b47, .ref b48, .ref b49, .ref b50, .ref b51, .ref b52, .ref b53, .ref b54, .ref b55, .ref b56, .ref b57, .ref b58, .ref b59, .ref b60, .ref b61, .ref b62, .ref b63]))]) rfl [0] rfl rfl (⟨rfl, rfl⟩) ⟨Nat.le_of_ble_eq_true rfl, Nat.le_of_ble_eq_true rfl⟩ dX12_blank_14

set_option maxHeartbeats 4000000 in
set_option maxRecDepth 100000 in
theorem C_X12_kept (l : Launch) (g : GG) (h0 b1 b6 b7 b8 b9 b10 b11 b12 b13 b14 b15 b16 b17 b21 b22 b23 b24 b25 b26 b28 b29 b30 b31 b32 b33 b34 b35 b36 b46 b47 b48 b49 b50 b51 b52 b53 b54 b55 b56 b57 b58 b59 b60 b61 b62 b63 : Nat) (p0 : Int32) (p1 : Int32) : MetI l g yX12_kept cX12_kept 10 (some .int) 1 0 0 [.ref h0, .int p0, .int p1] [(h0, .inr (12, [.int 0, .ref b1, .int 0, .int 0, .int 0, .int 0, .ref b6, .ref b7, .ref b8, .ref b9, .ref b10, .ref b11, .ref b12, .ref b13, .ref b14, .ref b15, .ref b16, .ref b17, .int 0, .int (-1), .int (-1), .ref b21, .ref b22, .ref b23, .ref b24, .ref b25, .ref b26, .int 0, .ref b28, .ref b29, .ref b30, .ref b31, .ref b32, .ref b33, .ref b34, .ref b35, .ref b36, .int 0, .int 0, .int 0, .int 0, .int 0, .int 0, .int 0, .int 0, .int 0, .ref b46, .ref b47, .ref b48, .ref b49, .ref b50, .ref b51, .ref b52, .ref b53, .ref b54, .ref b55, .ref b56, .ref b57, .ref b58, .ref b59, .ref b60, .ref b61, .ref b62, .ref b63]))] (fun r u => r = (-1) ∧ u = [(h0, .inr (12, [.int 0, .ref b1, .int 0, .int 0, .int 0, .int 0, .ref b6, .ref b7, .ref b8, .ref b9, .ref b10, .ref b11, .ref b12, .ref b13, .ref b14, .ref b15, .ref b16, .ref b17, .int 0, .int (-1), .int (-1), .ref b21, .ref b22, .ref b23, .ref b24, .ref b25, .ref b26, .int 0, .ref b28, .ref b29, .ref b30, .ref b31, .ref b32, .ref b33, .ref b34, .ref b35, .ref b36, .int 0, .int 0, .int 0, .int 0, .int 0, .int 0, .int 0, .int 0, .int 0, .ref b46, .ref b47, .ref b48, .ref b49, .ref b50, .ref b51, .ref b52, .ref b53, .ref b54, .ref b55, .ref b56, .ref b57, .ref b58, .ref b59, .ref b60, .ref b61, .ref b62, .ref b63]))]) := by
  refine MetI.of (own := RX12) rfl (by decide) (Nat.le_of_ble_eq_true rfl) ?_
  intro p e s m below meth c A ls args Q hQ X hr hin hW hl
  have hx := X.1
  have hb := X.2.1
  have hl : lv_has ls 10 [(0, .ref h0), (1, .int p0), (2, .int p1)] := hl
  refine lv_aload_n (pc := 0) hx hb dX12_kept_0 rfl (lv_at hl 0 rfl) ?_
  refine lv_iconst (v := 0) (pc := 1) hx hb dX12_kept_1 (by decide) ?_
  refine r_put (ws' := [(h0, .inr (12, [.int 0, .ref b1, .int 0, .int 0, .int 0, .int 0, .ref b6, .ref b7, .ref b8, .ref b9, .ref b10, .ref b11, .ref b12, .ref b13, .ref b14, .ref b15, .ref b16, .ref b17, .int 0, .int (-1), .int (-1), .ref b21, .ref b22, .ref b23, .ref b24, .ref b25, .ref b26, .int 0, .ref b28, .ref b29, .ref b30, .ref b31, .ref b32, .ref b33, .ref b34, .ref b35, .ref b36, .int 0, .int 0, .int 0, .int 0, .int 0, .int 0, .int 0, .int 0, .int 0, .ref b46, .ref b47, .ref b48, .ref b49, .ref b50, .ref b51, .ref b52, .ref b53, .ref b54, .ref b55, .ref b56, .ref b57, .ref b58, .ref b59, .ref b60, .ref b61, .ref b62, .ref b63]))]) X hW 0 ciX12 0 rfl (by decide) m_1231 rfl rfl rfl rfl (Nat.le_of_ble_eq_true rfl) rfl dX12_kept_2 (fun H locs hW => ?_)
  refine lv_aload_n (pc := 5) hx hb dX12_kept_5 rfl (lv_at hl 0 rfl) ?_
  refine lv_iload_n (pc := 6) hx hb dX12_kept_6 rfl (lv_at hl 1 rfl) ?_
  refine c_Vi (pc := 7) (As := [.int p0]) (rest := []) (wr := []) X hW 0 ciX12 rfl (C_X12_isValley l g h0 b1 b6 b7 b8 b9 b10 b11 b12 b13 b14 b15 b16 b17 b21 b22 b23 b24 b25 b26 b28 b29 b30 b31 b32 b33 b34 b35 b36 b46 b47 b48 b49 b50 b51 b52 b53 b54 b55 b56 b57 b58 b59 b60 b61 b62 b63 p0) vX12_221 [0] [] rfl rfl rfl rfl rfl rfl hl.1 rfl (Nat.le_of_ble_eq_true rfl) ⟨Nat.le_of_ble_eq_true rfl, Nat.le_of_ble_eq_true rfl⟩ ⟨Nat.le_of_ble_eq_true rfl, Nat.le_of_ble_eq_true rfl⟩ dX12_kept_7 (fun r1 u9 H locs hq hW => ?_)
  obtain ⟨rfl, rfl⟩ := hq
  have hW : WD g A s _ _ [(h0, .inr (12, [.int 0, .ref b1, .int 0, .int 0, .int 0, .int 0, .ref b6, .ref b7, .ref b8, .ref b9, .ref b10, .ref b11, .ref b12, .ref b13, .ref b14, .ref b15, .ref b16, .ref b17, .int 0, .int (-1), .int (-1), .ref b21, .ref b22, .ref b23, .ref b24, .ref b25, .ref b26, .int 0, .ref b28, .ref b29, .ref b30, .ref b31, .ref b32, .ref b33, .ref b34, .ref b35, .ref b36, .int 0, .int 0, .int 0, .int 0, .int 0, .int 0, .int 0, .int 0, .int 0, .ref b46, .ref b47, .ref b48, .ref b49, .ref b50, .ref b51, .ref b52, .ref b53, .ref b54, .ref b55, .ref b56, .ref b57, .ref b58, .ref b59, .ref b60, .ref b61, .ref b62, .ref b63]))] := hW
  refine lv_if_eq (tgt := 22) (pc := 10) hx hb dX12_kept_10 rfl (fun c2 => ?_) (fun c2 => absurd (by decide) c2)
  refine lv_iconst (v := (-1)) (pc := 22) hx hb dX12_kept_22 (by decide) ?_
  exact e_i X hQ hr hW (u := [(h0, .inr (12, [.int 0, .ref b1, .int 0, .int 0, .int 0, .int 0, .ref b6, .ref b7, .ref b8, .ref b9, .ref b10, .ref b11, .ref b12, .ref b13, .ref b14, .ref b15, .ref b16, .ref b17, .int 0, .int (-1), .int (-1), .ref b21, .ref b22, .ref b23, .ref b24, .ref b25, .ref b26, .int 0, .ref b28, .ref b29, .ref b30, .ref b31, .ref b32, .ref b33, .ref b34, .ref b35, .ref b36, .int 0, .int 0, .int 0, .int 0, .int 0, .int 0, .int 0, .int 0, .int 0, .ref b46, .ref b47, .ref b48, .ref b49, .ref b50, .ref b51, .ref b52, .ref b53, .ref b54, .ref b55, .ref b56, .ref b57, .ref b58, .ref b59, .ref b60, .ref b61, .ref b62, .ref b63]))]) [0] rfl rfl (⟨rfl, rfl⟩) ⟨Nat.le_of_ble_eq_true rfl, Nat.le_of_ble_eq_true rfl⟩ dX12_kept_23

set_option maxHeartbeats 4000000 in
set_option maxRecDepth 100000 in
theorem C_X12_tree (l : Launch) (g : GG) (h0 b1 b6 b7 b8 b9 b10 b11 b12 b13 b14 b15 b16 b17 b21 b22 b23 b24 b25 b26 b28 b29 b30 b31 b32 b33 b34 b35 b36 b46 b47 b48 b49 b50 b51 b52 b53 b54 b55 b56 b57 b58 b59 b60 b61 b62 b63 : Nat) (p0 : Int32) (p1 : Int32) (p2 : Int32) (p3 : Int32) : MetI l g yX12_tree cX12_tree 5 (some .int) 1 0 0 [.ref h0, .int p0, .int p1, .int p2, .int p3] [(h0, .inr (12, [.int 0, .ref b1, .int 0, .int 0, .int 0, .int 0, .ref b6, .ref b7, .ref b8, .ref b9, .ref b10, .ref b11, .ref b12, .ref b13, .ref b14, .ref b15, .ref b16, .ref b17, .int 0, .int (-1), .int (-1), .ref b21, .ref b22, .ref b23, .ref b24, .ref b25, .ref b26, .int 0, .ref b28, .ref b29, .ref b30, .ref b31, .ref b32, .ref b33, .ref b34, .ref b35, .ref b36, .int 0, .int 0, .int 0, .int 0, .int 0, .int 0, .int 0, .int 0, .int 0, .ref b46, .ref b47, .ref b48, .ref b49, .ref b50, .ref b51, .ref b52, .ref b53, .ref b54, .ref b55, .ref b56, .ref b57, .ref b58, .ref b59, .ref b60, .ref b61, .ref b62, .ref b63]))] (fun r u => r = (-1) ∧ u = [(h0, .inr (12, [.int 0, .ref b1, .int 0, .int 0, .int 0, .int 0, .ref b6, .ref b7, .ref b8, .ref b9, .ref b10, .ref b11, .ref b12, .ref b13, .ref b14, .ref b15, .ref b16, .ref b17, .int 0, .int (-1), .int (-1), .ref b21, .ref b22, .ref b23, .ref b24, .ref b25, .ref b26, .int 0, .ref b28, .ref b29, .ref b30, .ref b31, .ref b32, .ref b33, .ref b34, .ref b35, .ref b36, .int 0, .int 0, .int 0, .int 0, .int 0, .int 0, .int 0, .int 0, .int 0, .ref b46, .ref b47, .ref b48, .ref b49, .ref b50, .ref b51, .ref b52, .ref b53, .ref b54, .ref b55, .ref b56, .ref b57, .ref b58, .ref b59, .ref b60, .ref b61, .ref b62, .ref b63]))]) := by
  refine MetI.of (own := RX12) rfl (by decide) (Nat.le_of_ble_eq_true rfl) ?_
  intro p e s m below meth c A ls args Q hQ X hr hin hW hl
  have hx := X.1
  have hb := X.2.1
  have hl : lv_has ls 5 [(0, .ref h0), (1, .int p0), (2, .int p1), (3, .int p2), (4, .int p3)] := hl
  refine lv_aload_n (pc := 0) hx hb dX12_tree_0 rfl (lv_at hl 0 rfl) ?_
  refine lv_iconst (v := 0) (pc := 1) hx hb dX12_tree_1 (by decide) ?_
  refine r_put (ws' := [(h0, .inr (12, [.int 0, .ref b1, .int 0, .int 0, .int 0, .int 0, .ref b6, .ref b7, .ref b8, .ref b9, .ref b10, .ref b11, .ref b12, .ref b13, .ref b14, .ref b15, .ref b16, .ref b17, .int 0, .int (-1), .int (-1), .ref b21, .ref b22, .ref b23, .ref b24, .ref b25, .ref b26, .int 0, .ref b28, .ref b29, .ref b30, .ref b31, .ref b32, .ref b33, .ref b34, .ref b35, .ref b36, .int 0, .int 0, .int 0, .int 0, .int 0, .int 0, .int 0, .int 0, .int 0, .ref b46, .ref b47, .ref b48, .ref b49, .ref b50, .ref b51, .ref b52, .ref b53, .ref b54, .ref b55, .ref b56, .ref b57, .ref b58, .ref b59, .ref b60, .ref b61, .ref b62, .ref b63]))]) X hW 0 ciX12 0 rfl (by decide) m_1231 rfl rfl rfl rfl (Nat.le_of_ble_eq_true rfl) rfl dX12_tree_2 (fun H locs hW => ?_)
  refine lv_aload_n (pc := 5) hx hb dX12_tree_5 rfl (lv_at hl 0 rfl) ?_
  refine lv_iload_n (pc := 6) hx hb dX12_tree_6 rfl (lv_at hl 1 rfl) ?_
  refine c_Vi (pc := 7) (As := [.int p0]) (rest := []) (wr := []) X hW 0 ciX12 rfl (C_X12_isValley l g h0 b1 b6 b7 b8 b9 b10 b11 b12 b13 b14 b15 b16 b17 b21 b22 b23 b24 b25 b26 b28 b29 b30 b31 b32 b33 b34 b35 b36 b46 b47 b48 b49 b50 b51 b52 b53 b54 b55 b56 b57 b58 b59 b60 b61 b62 b63 p0) vX12_221 [0] [] rfl rfl rfl rfl rfl rfl hl.1 rfl (Nat.le_of_ble_eq_true rfl) ⟨Nat.le_of_ble_eq_true rfl, Nat.le_of_ble_eq_true rfl⟩ ⟨Nat.le_of_ble_eq_true rfl, Nat.le_of_ble_eq_true rfl⟩ dX12_tree_7 (fun r1 u9 H locs hq hW => ?_)
  obtain ⟨rfl, rfl⟩ := hq
  have hW : WD g A s _ _ [(h0, .inr (12, [.int 0, .ref b1, .int 0, .int 0, .int 0, .int 0, .ref b6, .ref b7, .ref b8, .ref b9, .ref b10, .ref b11, .ref b12, .ref b13, .ref b14, .ref b15, .ref b16, .ref b17, .int 0, .int (-1), .int (-1), .ref b21, .ref b22, .ref b23, .ref b24, .ref b25, .ref b26, .int 0, .ref b28, .ref b29, .ref b30, .ref b31, .ref b32, .ref b33, .ref b34, .ref b35, .ref b36, .int 0, .int 0, .int 0, .int 0, .int 0, .int 0, .int 0, .int 0, .int 0, .ref b46, .ref b47, .ref b48, .ref b49, .ref b50, .ref b51, .ref b52, .ref b53, .ref b54, .ref b55, .ref b56, .ref b57, .ref b58, .ref b59, .ref b60, .ref b61, .ref b62, .ref b63]))] := hW
  refine lv_if_eq (tgt := 39) (pc := 10) hx hb dX12_tree_10 rfl (fun c2 => ?_) (fun c2 => absurd (by decide) c2)
  refine lv_iconst (v := (-1)) (pc := 39) hx hb dX12_tree_39 (by decide) ?_
  exact e_i X hQ hr hW (u := [(h0, .inr (12, [.int 0, .ref b1, .int 0, .int 0, .int 0, .int 0, .ref b6, .ref b7, .ref b8, .ref b9, .ref b10, .ref b11, .ref b12, .ref b13, .ref b14, .ref b15, .ref b16, .ref b17, .int 0, .int (-1), .int (-1), .ref b21, .ref b22, .ref b23, .ref b24, .ref b25, .ref b26, .int 0, .ref b28, .ref b29, .ref b30, .ref b31, .ref b32, .ref b33, .ref b34, .ref b35, .ref b36, .int 0, .int 0, .int 0, .int 0, .int 0, .int 0, .int 0, .int 0, .int 0, .ref b46, .ref b47, .ref b48, .ref b49, .ref b50, .ref b51, .ref b52, .ref b53, .ref b54, .ref b55, .ref b56, .ref b57, .ref b58, .ref b59, .ref b60, .ref b61, .ref b62, .ref b63]))]) [0] rfl rfl (⟨rfl, rfl⟩) ⟨Nat.le_of_ble_eq_true rfl, Nat.le_of_ble_eq_true rfl⟩ dX12_tree_40

set_option maxHeartbeats 4000000 in
set_option maxRecDepth 100000 in
theorem C_X12_breaks (l : Launch) (g : GG) (h0 b1 b6 b7 b8 b9 b10 b11 b12 b13 b14 b15 b16 b17 b21 b22 b23 b24 b25 b26 b28 b29 b30 b31 b32 b33 b34 b35 b36 b46 b47 b48 b49 b50 b51 b52 b53 b54 b55 b56 b57 b58 b59 b60 b61 b62 b63 : Nat) (p0 : Int32) (p1 : Int32) : MetI l g yX12_breaks cX12_breaks 4 (some .int) 1 0 0 [.ref h0, .int p0, .int p1] [(h0, .inr (12, [.int 0, .ref b1, .int 0, .int 0, .int 0, .int 0, .ref b6, .ref b7, .ref b8, .ref b9, .ref b10, .ref b11, .ref b12, .ref b13, .ref b14, .ref b15, .ref b16, .ref b17, .int 0, .int (-1), .int (-1), .ref b21, .ref b22, .ref b23, .ref b24, .ref b25, .ref b26, .int 0, .ref b28, .ref b29, .ref b30, .ref b31, .ref b32, .ref b33, .ref b34, .ref b35, .ref b36, .int 0, .int 0, .int 0, .int 0, .int 0, .int 0, .int 0, .int 0, .int 0, .ref b46, .ref b47, .ref b48, .ref b49, .ref b50, .ref b51, .ref b52, .ref b53, .ref b54, .ref b55, .ref b56, .ref b57, .ref b58, .ref b59, .ref b60, .ref b61, .ref b62, .ref b63]))] (fun r u => r = (-1) ∧ u = [(h0, .inr (12, [.int 0, .ref b1, .int 0, .int 0, .int 0, .int 0, .ref b6, .ref b7, .ref b8, .ref b9, .ref b10, .ref b11, .ref b12, .ref b13, .ref b14, .ref b15, .ref b16, .ref b17, .int 0, .int (-1), .int (-1), .ref b21, .ref b22, .ref b23, .ref b24, .ref b25, .ref b26, .int 0, .ref b28, .ref b29, .ref b30, .ref b31, .ref b32, .ref b33, .ref b34, .ref b35, .ref b36, .int 0, .int 0, .int 0, .int 0, .int 0, .int 0, .int 0, .int 0, .int 0, .ref b46, .ref b47, .ref b48, .ref b49, .ref b50, .ref b51, .ref b52, .ref b53, .ref b54, .ref b55, .ref b56, .ref b57, .ref b58, .ref b59, .ref b60, .ref b61, .ref b62, .ref b63]))]) := by
  refine MetI.of (own := RX12) rfl (by decide) (Nat.le_of_ble_eq_true rfl) ?_
  intro p e s m below meth c A ls args Q hQ X hr hin hW hl
  have hx := X.1
  have hb := X.2.1
  have hl : lv_has ls 4 [(0, .ref h0), (1, .int p0), (2, .int p1)] := hl
  refine lv_aload_n (pc := 0) hx hb dX12_breaks_0 rfl (lv_at hl 0 rfl) ?_
  refine lv_iconst (v := 0) (pc := 1) hx hb dX12_breaks_1 (by decide) ?_
  refine r_put (ws' := [(h0, .inr (12, [.int 0, .ref b1, .int 0, .int 0, .int 0, .int 0, .ref b6, .ref b7, .ref b8, .ref b9, .ref b10, .ref b11, .ref b12, .ref b13, .ref b14, .ref b15, .ref b16, .ref b17, .int 0, .int (-1), .int (-1), .ref b21, .ref b22, .ref b23, .ref b24, .ref b25, .ref b26, .int 0, .ref b28, .ref b29, .ref b30, .ref b31, .ref b32, .ref b33, .ref b34, .ref b35, .ref b36, .int 0, .int 0, .int 0, .int 0, .int 0, .int 0, .int 0, .int 0, .int 0, .ref b46, .ref b47, .ref b48, .ref b49, .ref b50, .ref b51, .ref b52, .ref b53, .ref b54, .ref b55, .ref b56, .ref b57, .ref b58, .ref b59, .ref b60, .ref b61, .ref b62, .ref b63]))]) X hW 0 ciX12 0 rfl (by decide) m_1231 rfl rfl rfl rfl (Nat.le_of_ble_eq_true rfl) rfl dX12_breaks_2 (fun H locs hW => ?_)
  refine lv_aload_n (pc := 5) hx hb dX12_breaks_5 rfl (lv_at hl 0 rfl) ?_
  refine lv_iload_n (pc := 6) hx hb dX12_breaks_6 rfl (lv_at hl 1 rfl) ?_
  refine c_Vi (pc := 7) (As := [.int p0]) (rest := []) (wr := []) X hW 0 ciX12 rfl (C_X12_isPlan l g h0 b1 b6 b7 b8 b9 b10 b11 b12 b13 b14 b15 b16 b17 b21 b22 b23 b24 b25 b26 b28 b29 b30 b31 b32 b33 b34 b35 b36 b46 b47 b48 b49 b50 b51 b52 b53 b54 b55 b56 b57 b58 b59 b60 b61 b62 b63 p0) vX12_247 [0] [] rfl rfl rfl rfl rfl rfl hl.1 rfl (Nat.le_of_ble_eq_true rfl) ⟨Nat.le_of_ble_eq_true rfl, Nat.le_of_ble_eq_true rfl⟩ ⟨Nat.le_of_ble_eq_true rfl, Nat.le_of_ble_eq_true rfl⟩ dX12_breaks_7 (fun r1 u9 H locs hq hW => ?_)
  obtain ⟨rfl, rfl⟩ := hq
  have hW : WD g A s _ _ [(h0, .inr (12, [.int 0, .ref b1, .int 0, .int 0, .int 0, .int 0, .ref b6, .ref b7, .ref b8, .ref b9, .ref b10, .ref b11, .ref b12, .ref b13, .ref b14, .ref b15, .ref b16, .ref b17, .int 0, .int (-1), .int (-1), .ref b21, .ref b22, .ref b23, .ref b24, .ref b25, .ref b26, .int 0, .ref b28, .ref b29, .ref b30, .ref b31, .ref b32, .ref b33, .ref b34, .ref b35, .ref b36, .int 0, .int 0, .int 0, .int 0, .int 0, .int 0, .int 0, .int 0, .int 0, .ref b46, .ref b47, .ref b48, .ref b49, .ref b50, .ref b51, .ref b52, .ref b53, .ref b54, .ref b55, .ref b56, .ref b57, .ref b58, .ref b59, .ref b60, .ref b61, .ref b62, .ref b63]))] := hW
  refine lv_if_ne (tgt := 15) (pc := 10) hx hb dX12_breaks_10 rfl (fun c2 => absurd (by decide) c2) (fun c2 => ?_)
  refine lv_iconst (v := (-1)) (pc := 13) hx hb dX12_breaks_13 (by decide) ?_
  exact e_i X hQ hr hW (u := [(h0, .inr (12, [.int 0, .ref b1, .int 0, .int 0, .int 0, .int 0, .ref b6, .ref b7, .ref b8, .ref b9, .ref b10, .ref b11, .ref b12, .ref b13, .ref b14, .ref b15, .ref b16, .ref b17, .int 0, .int (-1), .int (-1), .ref b21, .ref b22, .ref b23, .ref b24, .ref b25, .ref b26, .int 0, .ref b28, .ref b29, .ref b30, .ref b31, .ref b32, .ref b33, .ref b34, .ref b35, .ref b36, .int 0, .int 0, .int 0, .int 0, .int 0, .int 0, .int 0, .int 0, .int 0, .ref b46, .ref b47, .ref b48, .ref b49, .ref b50, .ref b51, .ref b52, .ref b53, .ref b54, .ref b55, .ref b56, .ref b57, .ref b58, .ref b59, .ref b60, .ref b61, .ref b62, .ref b63]))]) [0] rfl rfl (⟨rfl, rfl⟩) ⟨Nat.le_of_ble_eq_true rfl, Nat.le_of_ble_eq_true rfl⟩ dX12_breaks_14

set_option maxHeartbeats 4000000 in
set_option maxRecDepth 100000 in
theorem C_X12_breaker (l : Launch) (g : GG) (h0 b1 b6 b7 b8 b9 b10 b11 b12 b13 b14 b15 b16 b17 b21 b22 b23 b24 b25 b26 b28 b29 b30 b31 b32 b33 b34 b35 b36 b46 b47 b48 b49 b50 b51 b52 b53 b54 b55 b56 b57 b58 b59 b60 b61 b62 b63 : Nat) (p0 : Int32) : MetI l g yX12_breaker cX12_breaker 3 (some .int) 1 0 0 [.ref h0, .int p0] [(h0, .inr (12, [.int 0, .ref b1, .int 0, .int 0, .int 0, .int 0, .ref b6, .ref b7, .ref b8, .ref b9, .ref b10, .ref b11, .ref b12, .ref b13, .ref b14, .ref b15, .ref b16, .ref b17, .int 0, .int (-1), .int (-1), .ref b21, .ref b22, .ref b23, .ref b24, .ref b25, .ref b26, .int 0, .ref b28, .ref b29, .ref b30, .ref b31, .ref b32, .ref b33, .ref b34, .ref b35, .ref b36, .int 0, .int 0, .int 0, .int 0, .int 0, .int 0, .int 0, .int 0, .int 0, .ref b46, .ref b47, .ref b48, .ref b49, .ref b50, .ref b51, .ref b52, .ref b53, .ref b54, .ref b55, .ref b56, .ref b57, .ref b58, .ref b59, .ref b60, .ref b61, .ref b62, .ref b63]))] (fun r u => r = (-1) ∧ u = [(h0, .inr (12, [.int 0, .ref b1, .int 0, .int 0, .int 0, .int 0, .ref b6, .ref b7, .ref b8, .ref b9, .ref b10, .ref b11, .ref b12, .ref b13, .ref b14, .ref b15, .ref b16, .ref b17, .int 0, .int (-1), .int (-1), .ref b21, .ref b22, .ref b23, .ref b24, .ref b25, .ref b26, .int 0, .ref b28, .ref b29, .ref b30, .ref b31, .ref b32, .ref b33, .ref b34, .ref b35, .ref b36, .int 0, .int 0, .int 0, .int 0, .int 0, .int 0, .int 0, .int 0, .int 0, .ref b46, .ref b47, .ref b48, .ref b49, .ref b50, .ref b51, .ref b52, .ref b53, .ref b54, .ref b55, .ref b56, .ref b57, .ref b58, .ref b59, .ref b60, .ref b61, .ref b62, .ref b63]))]) := by
  refine MetI.of (own := RX12) rfl (by decide) (Nat.le_of_ble_eq_true rfl) ?_
  intro p e s m below meth c A ls args Q hQ X hr hin hW hl
  have hx := X.1
  have hb := X.2.1
  have hl : lv_has ls 3 [(0, .ref h0), (1, .int p0)] := hl
  refine lv_aload_n (pc := 0) hx hb dX12_breaker_0 rfl (lv_at hl 0 rfl) ?_
  refine lv_iconst (v := 0) (pc := 1) hx hb dX12_breaker_1 (by decide) ?_
  refine r_put (ws' := [(h0, .inr (12, [.int 0, .ref b1, .int 0, .int 0, .int 0, .int 0, .ref b6, .ref b7, .ref b8, .ref b9, .ref b10, .ref b11, .ref b12, .ref b13, .ref b14, .ref b15, .ref b16, .ref b17, .int 0, .int (-1), .int (-1), .ref b21, .ref b22, .ref b23, .ref b24, .ref b25, .ref b26, .int 0, .ref b28, .ref b29, .ref b30, .ref b31, .ref b32, .ref b33, .ref b34, .ref b35, .ref b36, .int 0, .int 0, .int 0, .int 0, .int 0, .int 0, .int 0, .int 0, .int 0, .ref b46, .ref b47, .ref b48, .ref b49, .ref b50, .ref b51, .ref b52, .ref b53, .ref b54, .ref b55, .ref b56, .ref b57, .ref b58, .ref b59, .ref b60, .ref b61, .ref b62, .ref b63]))]) X hW 0 ciX12 0 rfl (by decide) m_1231 rfl rfl rfl rfl (Nat.le_of_ble_eq_true rfl) rfl dX12_breaker_2 (fun H locs hW => ?_)
  refine lv_aload_n (pc := 5) hx hb dX12_breaker_5 rfl (lv_at hl 0 rfl) ?_
  refine lv_iload_n (pc := 6) hx hb dX12_breaker_6 rfl (lv_at hl 1 rfl) ?_
  refine c_Vi (pc := 7) (As := [.int p0]) (rest := []) (wr := []) X hW 0 ciX12 rfl (C_X12_isPlan l g h0 b1 b6 b7 b8 b9 b10 b11 b12 b13 b14 b15 b16 b17 b21 b22 b23 b24 b25 b26 b28 b29 b30 b31 b32 b33 b34 b35 b36 b46 b47 b48 b49 b50 b51 b52 b53 b54 b55 b56 b57 b58 b59 b60 b61 b62 b63 p0) vX12_247 [0] [] rfl rfl rfl rfl rfl rfl hl.1 rfl (Nat.le_of_ble_eq_true rfl) ⟨Nat.le_of_ble_eq_true rfl, Nat.le_of_ble_eq_true rfl⟩ ⟨Nat.le_of_ble_eq_true rfl, Nat.le_of_ble_eq_true rfl⟩ dX12_breaker_7 (fun r1 u9 H locs hq hW => ?_)
  obtain ⟨rfl, rfl⟩ := hq
  have hW : WD g A s _ _ [(h0, .inr (12, [.int 0, .ref b1, .int 0, .int 0, .int 0, .int 0, .ref b6, .ref b7, .ref b8, .ref b9, .ref b10, .ref b11, .ref b12, .ref b13, .ref b14, .ref b15, .ref b16, .ref b17, .int 0, .int (-1), .int (-1), .ref b21, .ref b22, .ref b23, .ref b24, .ref b25, .ref b26, .int 0, .ref b28, .ref b29, .ref b30, .ref b31, .ref b32, .ref b33, .ref b34, .ref b35, .ref b36, .int 0, .int 0, .int 0, .int 0, .int 0, .int 0, .int 0, .int 0, .int 0, .ref b46, .ref b47, .ref b48, .ref b49, .ref b50, .ref b51, .ref b52, .ref b53, .ref b54, .ref b55, .ref b56, .ref b57, .ref b58, .ref b59, .ref b60, .ref b61, .ref b62, .ref b63]))] := hW
  refine lv_if_ne (tgt := 15) (pc := 10) hx hb dX12_breaker_10 rfl (fun c2 => absurd (by decide) c2) (fun c2 => ?_)
  refine lv_iconst (v := (-1)) (pc := 13) hx hb dX12_breaker_13 (by decide) ?_
  exact e_i X hQ hr hW (u := [(h0, .inr (12, [.int 0, .ref b1, .int 0, .int 0, .int 0, .int 0, .ref b6, .ref b7, .ref b8, .ref b9, .ref b10, .ref b11, .ref b12, .ref b13, .ref b14, .ref b15, .ref b16, .ref b17, .int 0, .int (-1), .int (-1), .ref b21, .ref b22, .ref b23, .ref b24, .ref b25, .ref b26, .int 0, .ref b28, .ref b29, .ref b30, .ref b31, .ref b32, .ref b33, .ref b34, .ref b35, .ref b36, .int 0, .int 0, .int 0, .int 0, .int 0, .int 0, .int 0, .int 0, .int 0, .ref b46, .ref b47, .ref b48, .ref b49, .ref b50, .ref b51, .ref b52, .ref b53, .ref b54, .ref b55, .ref b56, .ref b57, .ref b58, .ref b59, .ref b60, .ref b61, .ref b62, .ref b63]))]) [0] rfl rfl (⟨rfl, rfl⟩) ⟨Nat.le_of_ble_eq_true rfl, Nat.le_of_ble_eq_true rfl⟩ dX12_breaker_14

set_option maxHeartbeats 4000000 in
set_option maxRecDepth 100000 in
theorem C_X12_tale (l : Launch) (g : GG) (h0 b1 b6 b7 b8 b9 b10 b11 b12 b13 b14 b15 b16 b17 b21 b22 b23 b24 b25 b26 b28 b29 b30 b31 b32 b33 b34 b35 b36 b46 b47 b48 b49 b50 b51 b52 b53 b54 b55 b56 b57 b58 b59 b60 b61 b62 b63 : Nat) (p0 : Int32) (p1 : Int32) (p2 : Int32) (p3 : Int32) : MetI l g yX12_tale cX12_tale 5 (some .boolean) 1 0 0 [.ref h0, .int p0, .int p1, .int p2, .int p3] [(h0, .inr (12, [.int 0, .ref b1, .int 0, .int 0, .int 0, .int 0, .ref b6, .ref b7, .ref b8, .ref b9, .ref b10, .ref b11, .ref b12, .ref b13, .ref b14, .ref b15, .ref b16, .ref b17, .int 0, .int (-1), .int (-1), .ref b21, .ref b22, .ref b23, .ref b24, .ref b25, .ref b26, .int 0, .ref b28, .ref b29, .ref b30, .ref b31, .ref b32, .ref b33, .ref b34, .ref b35, .ref b36, .int 0, .int 0, .int 0, .int 0, .int 0, .int 0, .int 0, .int 0, .int 0, .ref b46, .ref b47, .ref b48, .ref b49, .ref b50, .ref b51, .ref b52, .ref b53, .ref b54, .ref b55, .ref b56, .ref b57, .ref b58, .ref b59, .ref b60, .ref b61, .ref b62, .ref b63]))] (fun r u => r = 0 ∧ u = [(h0, .inr (12, [.int 0, .ref b1, .int 0, .int 0, .int 0, .int 0, .ref b6, .ref b7, .ref b8, .ref b9, .ref b10, .ref b11, .ref b12, .ref b13, .ref b14, .ref b15, .ref b16, .ref b17, .int 0, .int (-1), .int (-1), .ref b21, .ref b22, .ref b23, .ref b24, .ref b25, .ref b26, .int 0, .ref b28, .ref b29, .ref b30, .ref b31, .ref b32, .ref b33, .ref b34, .ref b35, .ref b36, .int 0, .int 0, .int 0, .int 0, .int 0, .int 0, .int 0, .int 0, .int 0, .ref b46, .ref b47, .ref b48, .ref b49, .ref b50, .ref b51, .ref b52, .ref b53, .ref b54, .ref b55, .ref b56, .ref b57, .ref b58, .ref b59, .ref b60, .ref b61, .ref b62, .ref b63]))]) := by
  refine MetI.of (own := RX12) rfl (by decide) (Nat.le_of_ble_eq_true rfl) ?_
  intro p e s m below meth c A ls args Q hQ X hr hin hW hl
  have hx := X.1
  have hb := X.2.1
  have hl : lv_has ls 5 [(0, .ref h0), (1, .int p0), (2, .int p1), (3, .int p2), (4, .int p3)] := hl
  refine lv_aload_n (pc := 0) hx hb dX12_tale_0 rfl (lv_at hl 0 rfl) ?_
  refine lv_iconst (v := 0) (pc := 1) hx hb dX12_tale_1 (by decide) ?_
  refine r_put (ws' := [(h0, .inr (12, [.int 0, .ref b1, .int 0, .int 0, .int 0, .int 0, .ref b6, .ref b7, .ref b8, .ref b9, .ref b10, .ref b11, .ref b12, .ref b13, .ref b14, .ref b15, .ref b16, .ref b17, .int 0, .int (-1), .int (-1), .ref b21, .ref b22, .ref b23, .ref b24, .ref b25, .ref b26, .int 0, .ref b28, .ref b29, .ref b30, .ref b31, .ref b32, .ref b33, .ref b34, .ref b35, .ref b36, .int 0, .int 0, .int 0, .int 0, .int 0, .int 0, .int 0, .int 0, .int 0, .ref b46, .ref b47, .ref b48, .ref b49, .ref b50, .ref b51, .ref b52, .ref b53, .ref b54, .ref b55, .ref b56, .ref b57, .ref b58, .ref b59, .ref b60, .ref b61, .ref b62, .ref b63]))]) X hW 0 ciX12 0 rfl (by decide) m_1231 rfl rfl rfl rfl (Nat.le_of_ble_eq_true rfl) rfl dX12_tale_2 (fun H locs hW => ?_)
  refine lv_aload_n (pc := 5) hx hb dX12_tale_5 rfl (lv_at hl 0 rfl) ?_
  refine lv_iload_n (pc := 6) hx hb dX12_tale_6 rfl (lv_at hl 1 rfl) ?_
  refine c_Vi (pc := 7) (As := [.int p0]) (rest := []) (wr := []) X hW 0 ciX12 rfl (C_X12_isValley l g h0 b1 b6 b7 b8 b9 b10 b11 b12 b13 b14 b15 b16 b17 b21 b22 b23 b24 b25 b26 b28 b29 b30 b31 b32 b33 b34 b35 b36 b46 b47 b48 b49 b50 b51 b52 b53 b54 b55 b56 b57 b58 b59 b60 b61 b62 b63 p0) vX12_221 [0] [] rfl rfl rfl rfl rfl rfl hl.1 rfl (Nat.le_of_ble_eq_true rfl) ⟨Nat.le_of_ble_eq_true rfl, Nat.le_of_ble_eq_true rfl⟩ ⟨Nat.le_of_ble_eq_true rfl, Nat.le_of_ble_eq_true rfl⟩ dX12_tale_7 (fun r1 u9 H locs hq hW => ?_)
  obtain ⟨rfl, rfl⟩ := hq
  have hW : WD g A s _ _ [(h0, .inr (12, [.int 0, .ref b1, .int 0, .int 0, .int 0, .int 0, .ref b6, .ref b7, .ref b8, .ref b9, .ref b10, .ref b11, .ref b12, .ref b13, .ref b14, .ref b15, .ref b16, .ref b17, .int 0, .int (-1), .int (-1), .ref b21, .ref b22, .ref b23, .ref b24, .ref b25, .ref b26, .int 0, .ref b28, .ref b29, .ref b30, .ref b31, .ref b32, .ref b33, .ref b34, .ref b35, .ref b36, .int 0, .int 0, .int 0, .int 0, .int 0, .int 0, .int 0, .int 0, .int 0, .ref b46, .ref b47, .ref b48, .ref b49, .ref b50, .ref b51, .ref b52, .ref b53, .ref b54, .ref b55, .ref b56, .ref b57, .ref b58, .ref b59, .ref b60, .ref b61, .ref b62, .ref b63]))] := hW
  refine lv_if_eq (tgt := 40) (pc := 10) hx hb dX12_tale_10 rfl (fun c2 => ?_) (fun c2 => absurd (by decide) c2)
  refine lv_iconst (v := 0) (pc := 40) hx hb dX12_tale_40 (by decide) ?_
  exact e_z X hQ hr hW (u := [(h0, .inr (12, [.int 0, .ref b1, .int 0, .int 0, .int 0, .int 0, .ref b6, .ref b7, .ref b8, .ref b9, .ref b10, .ref b11, .ref b12, .ref b13, .ref b14, .ref b15, .ref b16, .ref b17, .int 0, .int (-1), .int (-1), .ref b21, .ref b22, .ref b23, .ref b24, .ref b25, .ref b26, .int 0, .ref b28, .ref b29, .ref b30, .ref b31, .ref b32, .ref b33, .ref b34, .ref b35, .ref b36, .int 0, .int 0, .int 0, .int 0, .int 0, .int 0, .int 0, .int 0, .int 0, .ref b46, .ref b47, .ref b48, .ref b49, .ref b50, .ref b51, .ref b52, .ref b53, .ref b54, .ref b55, .ref b56, .ref b57, .ref b58, .ref b59, .ref b60, .ref b61, .ref b62, .ref b63]))]) rfl [0] rfl rfl (⟨rfl, rfl⟩) ⟨Nat.le_of_ble_eq_true rfl, Nat.le_of_ble_eq_true rfl⟩ dX12_tale_41

set_option maxHeartbeats 4000000 in
set_option maxRecDepth 100000 in
theorem C_X12_who (l : Launch) (g : GG) (h0 b1 b6 b7 b8 b9 b10 b11 b12 b13 b14 b15 b16 b17 b21 b22 b23 b24 b25 b26 b28 b29 b30 b31 b32 b33 b34 b35 b36 b46 b47 b48 b49 b50 b51 b52 b53 b54 b55 b56 b57 b58 b59 b60 b61 b62 b63 : Nat) (p0 : Int32) (p1 : Int32) : MetI l g yX12_who cX12_who 5 (some .int) 2 0 0 [.ref h0, .int p0, .int p1] [(h0, .inr (12, [.int 0, .ref b1, .int 0, .int 0, .int 0, .int 0, .ref b6, .ref b7, .ref b8, .ref b9, .ref b10, .ref b11, .ref b12, .ref b13, .ref b14, .ref b15, .ref b16, .ref b17, .int 0, .int (-1), .int (-1), .ref b21, .ref b22, .ref b23, .ref b24, .ref b25, .ref b26, .int 0, .ref b28, .ref b29, .ref b30, .ref b31, .ref b32, .ref b33, .ref b34, .ref b35, .ref b36, .int 0, .int 0, .int 0, .int 0, .int 0, .int 0, .int 0, .int 0, .int 0, .ref b46, .ref b47, .ref b48, .ref b49, .ref b50, .ref b51, .ref b52, .ref b53, .ref b54, .ref b55, .ref b56, .ref b57, .ref b58, .ref b59, .ref b60, .ref b61, .ref b62, .ref b63]))] (fun r u => r = (-1) ∧ u = [(h0, .inr (12, [.int 0, .ref b1, .int 0, .int 0, .int 0, .int 0, .ref b6, .ref b7, .ref b8, .ref b9, .ref b10, .ref b11, .ref b12, .ref b13, .ref b14, .ref b15, .ref b16, .ref b17, .int 0, .int (-1), .int (-1), .ref b21, .ref b22, .ref b23, .ref b24, .ref b25, .ref b26, .int 0, .ref b28, .ref b29, .ref b30, .ref b31, .ref b32, .ref b33, .ref b34, .ref b35, .ref b36, .int 0, .int 0, .int 0, .int 0, .int 0, .int 0, .int 0, .int 0, .int 0, .ref b46, .ref b47, .ref b48, .ref b49, .ref b50, .ref b51, .ref b52, .ref b53, .ref b54, .ref b55, .ref b56, .ref b57, .ref b58, .ref b59, .ref b60, .ref b61, .ref b62, .ref b63]))]) := by
  refine MetI.of (own := RX12) rfl (by decide) (Nat.le_of_ble_eq_true rfl) ?_
  intro p e s m below meth c A ls args Q hQ X hr hin hW hl
  have hx := X.1
  have hb := X.2.1
  have hl : lv_has ls 5 [(0, .ref h0), (1, .int p0), (2, .int p1)] := hl
  refine lv_aload_n (pc := 0) hx hb dX12_who_0 rfl (lv_at hl 0 rfl) ?_
  refine lv_iload_n (pc := 1) hx hb dX12_who_1 rfl (lv_at hl 1 rfl) ?_
  refine lv_iload_n (pc := 2) hx hb dX12_who_2 rfl (lv_at hl 2 rfl) ?_
  refine c_Vi (pc := 3) (As := [.int p0, .int p1]) (rest := []) (wr := []) X hW 0 ciX12 rfl (C_X12_isAsked l g h0 b1 b6 b7 b8 b9 b10 b11 b12 b13 b14 b15 b16 b17 b21 b22 b23 b24 b25 b26 b28 b29 b30 b31 b32 b33 b34 b35 b36 b46 b47 b48 b49 b50 b51 b52 b53 b54 b55 b56 b57 b58 b59 b60 b61 b62 b63 p0 p1) vX12_315 [0] [] rfl rfl rfl rfl rfl rfl hl.1 rfl (Nat.le_of_ble_eq_true rfl) ⟨Nat.le_of_ble_eq_true rfl, Nat.le_of_ble_eq_true rfl⟩ ⟨Nat.le_of_ble_eq_true rfl, Nat.le_of_ble_eq_true rfl⟩ dX12_who_3 (fun r1 u9 H locs hq hW => ?_)
  obtain ⟨rfl, rfl⟩ := hq
  have hW : WD g A s _ _ [(h0, .inr (12, [.int 0, .ref b1, .int 0, .int 0, .int 0, .int 0, .ref b6, .ref b7, .ref b8, .ref b9, .ref b10, .ref b11, .ref b12, .ref b13, .ref b14, .ref b15, .ref b16, .ref b17, .int 0, .int (-1), .int (-1), .ref b21, .ref b22, .ref b23, .ref b24, .ref b25, .ref b26, .int 0, .ref b28, .ref b29, .ref b30, .ref b31, .ref b32, .ref b33, .ref b34, .ref b35, .ref b36, .int 0, .int 0, .int 0, .int 0, .int 0, .int 0, .int 0, .int 0, .int 0, .ref b46, .ref b47, .ref b48, .ref b49, .ref b50, .ref b51, .ref b52, .ref b53, .ref b54, .ref b55, .ref b56, .ref b57, .ref b58, .ref b59, .ref b60, .ref b61, .ref b62, .ref b63]))] := hW
  refine lv_if_ne (tgt := 11) (pc := 6) hx hb dX12_who_6 rfl (fun c2 => absurd (by decide) c2) (fun c2 => ?_)
  refine lv_iconst (v := (-1)) (pc := 9) hx hb dX12_who_9 (by decide) ?_
  exact e_i X hQ hr hW (u := [(h0, .inr (12, [.int 0, .ref b1, .int 0, .int 0, .int 0, .int 0, .ref b6, .ref b7, .ref b8, .ref b9, .ref b10, .ref b11, .ref b12, .ref b13, .ref b14, .ref b15, .ref b16, .ref b17, .int 0, .int (-1), .int (-1), .ref b21, .ref b22, .ref b23, .ref b24, .ref b25, .ref b26, .int 0, .ref b28, .ref b29, .ref b30, .ref b31, .ref b32, .ref b33, .ref b34, .ref b35, .ref b36, .int 0, .int 0, .int 0, .int 0, .int 0, .int 0, .int 0, .int 0, .int 0, .ref b46, .ref b47, .ref b48, .ref b49, .ref b50, .ref b51, .ref b52, .ref b53, .ref b54, .ref b55, .ref b56, .ref b57, .ref b58, .ref b59, .ref b60, .ref b61, .ref b62, .ref b63]))]) [0] rfl rfl (⟨rfl, rfl⟩) ⟨Nat.le_of_ble_eq_true rfl, Nat.le_of_ble_eq_true rfl⟩ dX12_who_10

set_option maxHeartbeats 4000000 in
set_option maxRecDepth 100000 in
theorem C_X12_fits (l : Launch) (g : GG) (h0 b1 b6 b7 b8 b9 b10 b11 b12 b13 b14 b15 b16 b17 b21 b22 b23 b24 b25 b26 b28 b29 b30 b31 b32 b33 b34 b35 b36 b46 b47 b48 b49 b50 b51 b52 b53 b54 b55 b56 b57 b58 b59 b60 b61 b62 b63 : Nat) (p0 : Int32) (p1 : Int32) : MetI l g yX12_fits cX12_fits 7 (some .int) 1 0 0 [.ref h0, .int p0, .int p1] [(h0, .inr (12, [.int 0, .ref b1, .int 0, .int 0, .int 0, .int 0, .ref b6, .ref b7, .ref b8, .ref b9, .ref b10, .ref b11, .ref b12, .ref b13, .ref b14, .ref b15, .ref b16, .ref b17, .int 0, .int (-1), .int (-1), .ref b21, .ref b22, .ref b23, .ref b24, .ref b25, .ref b26, .int 0, .ref b28, .ref b29, .ref b30, .ref b31, .ref b32, .ref b33, .ref b34, .ref b35, .ref b36, .int 0, .int 0, .int 0, .int 0, .int 0, .int 0, .int 0, .int 0, .int 0, .ref b46, .ref b47, .ref b48, .ref b49, .ref b50, .ref b51, .ref b52, .ref b53, .ref b54, .ref b55, .ref b56, .ref b57, .ref b58, .ref b59, .ref b60, .ref b61, .ref b62, .ref b63]))] (fun r u => r = (-1) ∧ u = [(h0, .inr (12, [.int 0, .ref b1, .int 0, .int 0, .int 0, .int 0, .ref b6, .ref b7, .ref b8, .ref b9, .ref b10, .ref b11, .ref b12, .ref b13, .ref b14, .ref b15, .ref b16, .ref b17, .int 0, .int (-1), .int (-1), .ref b21, .ref b22, .ref b23, .ref b24, .ref b25, .ref b26, .int 0, .ref b28, .ref b29, .ref b30, .ref b31, .ref b32, .ref b33, .ref b34, .ref b35, .ref b36, .int 0, .int 0, .int 0, .int 0, .int 0, .int 0, .int 0, .int 0, .int 0, .ref b46, .ref b47, .ref b48, .ref b49, .ref b50, .ref b51, .ref b52, .ref b53, .ref b54, .ref b55, .ref b56, .ref b57, .ref b58, .ref b59, .ref b60, .ref b61, .ref b62, .ref b63]))]) := by
  refine MetI.of (own := RX12) rfl (by decide) (Nat.le_of_ble_eq_true rfl) ?_
  intro p e s m below meth c A ls args Q hQ X hr hin hW hl
  have hx := X.1
  have hb := X.2.1
  have hl : lv_has ls 7 [(0, .ref h0), (1, .int p0), (2, .int p1)] := hl
  refine lv_aload_n (pc := 0) hx hb dX12_fits_0 rfl (lv_at hl 0 rfl) ?_
  refine lv_iconst (v := 0) (pc := 1) hx hb dX12_fits_1 (by decide) ?_
  refine r_put (ws' := [(h0, .inr (12, [.int 0, .ref b1, .int 0, .int 0, .int 0, .int 0, .ref b6, .ref b7, .ref b8, .ref b9, .ref b10, .ref b11, .ref b12, .ref b13, .ref b14, .ref b15, .ref b16, .ref b17, .int 0, .int (-1), .int (-1), .ref b21, .ref b22, .ref b23, .ref b24, .ref b25, .ref b26, .int 0, .ref b28, .ref b29, .ref b30, .ref b31, .ref b32, .ref b33, .ref b34, .ref b35, .ref b36, .int 0, .int 0, .int 0, .int 0, .int 0, .int 0, .int 0, .int 0, .int 0, .ref b46, .ref b47, .ref b48, .ref b49, .ref b50, .ref b51, .ref b52, .ref b53, .ref b54, .ref b55, .ref b56, .ref b57, .ref b58, .ref b59, .ref b60, .ref b61, .ref b62, .ref b63]))]) X hW 0 ciX12 0 rfl (by decide) m_1231 rfl rfl rfl rfl (Nat.le_of_ble_eq_true rfl) rfl dX12_fits_2 (fun H locs hW => ?_)
  refine lv_aload_n (pc := 5) hx hb dX12_fits_5 rfl (lv_at hl 0 rfl) ?_
  refine lv_iload_n (pc := 6) hx hb dX12_fits_6 rfl (lv_at hl 1 rfl) ?_
  refine c_Vi (pc := 7) (As := [.int p0]) (rest := []) (wr := []) X hW 0 ciX12 rfl (C_X12_isPlan l g h0 b1 b6 b7 b8 b9 b10 b11 b12 b13 b14 b15 b16 b17 b21 b22 b23 b24 b25 b26 b28 b29 b30 b31 b32 b33 b34 b35 b36 b46 b47 b48 b49 b50 b51 b52 b53 b54 b55 b56 b57 b58 b59 b60 b61 b62 b63 p0) vX12_247 [0] [] rfl rfl rfl rfl rfl rfl hl.1 rfl (Nat.le_of_ble_eq_true rfl) ⟨Nat.le_of_ble_eq_true rfl, Nat.le_of_ble_eq_true rfl⟩ ⟨Nat.le_of_ble_eq_true rfl, Nat.le_of_ble_eq_true rfl⟩ dX12_fits_7 (fun r1 u9 H locs hq hW => ?_)
  obtain ⟨rfl, rfl⟩ := hq
  have hW : WD g A s _ _ [(h0, .inr (12, [.int 0, .ref b1, .int 0, .int 0, .int 0, .int 0, .ref b6, .ref b7, .ref b8, .ref b9, .ref b10, .ref b11, .ref b12, .ref b13, .ref b14, .ref b15, .ref b16, .ref b17, .int 0, .int (-1), .int (-1), .ref b21, .ref b22, .ref b23, .ref b24, .ref b25, .ref b26, .int 0, .ref b28, .ref b29, .ref b30, .ref b31, .ref b32, .ref b33, .ref b34, .ref b35, .ref b36, .int 0, .int 0, .int 0, .int 0, .int 0, .int 0, .int 0, .int 0, .int 0, .ref b46, .ref b47, .ref b48, .ref b49, .ref b50, .ref b51, .ref b52, .ref b53, .ref b54, .ref b55, .ref b56, .ref b57, .ref b58, .ref b59, .ref b60, .ref b61, .ref b62, .ref b63]))] := hW
  refine lv_if_eq (tgt := 20) (pc := 10) hx hb dX12_fits_10 rfl (fun c2 => ?_) (fun c2 => absurd (by decide) c2)
  refine lv_iconst (v := (-1)) (pc := 20) hx hb dX12_fits_20 (by decide) ?_
  exact e_i X hQ hr hW (u := [(h0, .inr (12, [.int 0, .ref b1, .int 0, .int 0, .int 0, .int 0, .ref b6, .ref b7, .ref b8, .ref b9, .ref b10, .ref b11, .ref b12, .ref b13, .ref b14, .ref b15, .ref b16, .ref b17, .int 0, .int (-1), .int (-1), .ref b21, .ref b22, .ref b23, .ref b24, .ref b25, .ref b26, .int 0, .ref b28, .ref b29, .ref b30, .ref b31, .ref b32, .ref b33, .ref b34, .ref b35, .ref b36, .int 0, .int 0, .int 0, .int 0, .int 0, .int 0, .int 0, .int 0, .int 0, .ref b46, .ref b47, .ref b48, .ref b49, .ref b50, .ref b51, .ref b52, .ref b53, .ref b54, .ref b55, .ref b56, .ref b57, .ref b58, .ref b59, .ref b60, .ref b61, .ref b62, .ref b63]))]) [0] rfl rfl (⟨rfl, rfl⟩) ⟨Nat.le_of_ble_eq_true rfl, Nat.le_of_ble_eq_true rfl⟩ dX12_fits_21

set_option maxHeartbeats 4000000 in
set_option maxRecDepth 100000 in
theorem C_X12_line (l : Launch) (g : GG) (h0 b1 b6 b7 b8 b9 b10 b11 b12 b13 b14 b15 b16 b17 b21 b22 b23 b24 b25 b26 b28 b29 b30 b31 b32 b33 b34 b35 b36 b46 b47 b48 b49 b50 b51 b52 b53 b54 b55 b56 b57 b58 b59 b60 b61 b62 b63 : Nat) (p0 : Int32) (p1 : Int32) (p2 : Int32) : MetI l g yX12_line cX12_line 5 (some .int) 2 0 0 [.ref h0, .int p0, .int p1, .int p2] [(h0, .inr (12, [.int 0, .ref b1, .int 0, .int 0, .int 0, .int 0, .ref b6, .ref b7, .ref b8, .ref b9, .ref b10, .ref b11, .ref b12, .ref b13, .ref b14, .ref b15, .ref b16, .ref b17, .int 0, .int (-1), .int (-1), .ref b21, .ref b22, .ref b23, .ref b24, .ref b25, .ref b26, .int 0, .ref b28, .ref b29, .ref b30, .ref b31, .ref b32, .ref b33, .ref b34, .ref b35, .ref b36, .int 0, .int 0, .int 0, .int 0, .int 0, .int 0, .int 0, .int 0, .int 0, .ref b46, .ref b47, .ref b48, .ref b49, .ref b50, .ref b51, .ref b52, .ref b53, .ref b54, .ref b55, .ref b56, .ref b57, .ref b58, .ref b59, .ref b60, .ref b61, .ref b62, .ref b63]))] (fun r u => r = 0 ∧ u = [(h0, .inr (12, [.int 1, .ref b1, .int 0, .int 0, .int 0, .int 0, .ref b6, .ref b7, .ref b8, .ref b9, .ref b10, .ref b11, .ref b12, .ref b13, .ref b14, .ref b15, .ref b16, .ref b17, .int 0, .int (-1), .int (-1), .ref b21, .ref b22, .ref b23, .ref b24, .ref b25, .ref b26, .int 0, .ref b28, .ref b29, .ref b30, .ref b31, .ref b32, .ref b33, .ref b34, .ref b35, .ref b36, .int 0, .int 0, .int 0, .int 0, .int 0, .int 0, .int 0, .int 0, .int 0, .ref b46, .ref b47, .ref b48, .ref b49, .ref b50, .ref b51, .ref b52, .ref b53, .ref b54, .ref b55, .ref b56, .ref b57, .ref b58, .ref b59, .ref b60, .ref b61, .ref b62, .ref b63]))]) := by
  refine MetI.of (own := RX12) rfl (by decide) (Nat.le_of_ble_eq_true rfl) ?_
  intro p e s m below meth c A ls args Q hQ X hr hin hW hl
  have hx := X.1
  have hb := X.2.1
  have hl : lv_has ls 5 [(0, .ref h0), (1, .int p0), (2, .int p1), (3, .int p2)] := hl
  refine lv_aload_n (pc := 0) hx hb dX12_line_0 rfl (lv_at hl 0 rfl) ?_
  refine lv_aload_n (pc := 1) hx hb dX12_line_1 rfl (lv_at hl 0 rfl) ?_
  refine lv_iload_n (pc := 2) hx hb dX12_line_2 rfl (lv_at hl 1 rfl) ?_
  refine lv_iload_n (pc := 3) hx hb dX12_line_3 rfl (lv_at hl 2 rfl) ?_
  refine c_Vi (pc := 4) (As := [.int p0, .int p1]) (rest := [.ref h0]) (wr := []) X hW 0 ciX12 rfl (C_X12_isLine l g h0 b1 b6 b7 b8 b9 b10 b11 b12 b13 b14 b15 b16 b17 b21 b22 b23 b24 b25 b26 b28 b29 b30 b31 b32 b33 b34 b35 b36 b46 b47 b48 b49 b50 b51 b52 b53 b54 b55 b56 b57 b58 b59 b60 b61 b62 b63 p0 p1) vX12_224 [0] [] rfl rfl rfl rfl rfl rfl hl.1 rfl (Nat.le_of_ble_eq_true rfl) ⟨Nat.le_of_ble_eq_true rfl, Nat.le_of_ble_eq_true rfl⟩ ⟨Nat.le_of_ble_eq_true rfl, Nat.le_of_ble_eq_true rfl⟩ dX12_line_4 (fun r1 u9 H locs hq hW => ?_)
  obtain ⟨rfl, rfl⟩ := hq
  have hW : WD g A s _ _ [(h0, .inr (12, [.int 0, .ref b1, .int 0, .int 0, .int 0, .int 0, .ref b6, .ref b7, .ref b8, .ref b9, .ref b10, .ref b11, .ref b12, .ref b13, .ref b14, .ref b15, .ref b16, .ref b17, .int 0, .int (-1), .int (-1), .ref b21, .ref b22, .ref b23, .ref b24, .ref b25, .ref b26, .int 0, .ref b28, .ref b29, .ref b30, .ref b31, .ref b32, .ref b33, .ref b34, .ref b35, .ref b36, .int 0, .int 0, .int 0, .int 0, .int 0, .int 0, .int 0, .int 0, .int 0, .ref b46, .ref b47, .ref b48, .ref b49, .ref b50, .ref b51, .ref b52, .ref b53, .ref b54, .ref b55, .ref b56, .ref b57, .ref b58, .ref b59, .ref b60, .ref b61, .ref b62, .ref b63]))] := hW
  refine lv_if_eq (tgt := 23) (pc := 7) hx hb dX12_line_7 rfl (fun c2 => ?_) (fun c2 => absurd (by decide) c2)
  refine lv_iconst (v := 1) (pc := 23) hx hb dX12_line_23 (by decide) ?_
  refine r_put (ws' := [(h0, .inr (12, [.int 1, .ref b1, .int 0, .int 0, .int 0, .int 0, .ref b6, .ref b7, .ref b8, .ref b9, .ref b10, .ref b11, .ref b12, .ref b13, .ref b14, .ref b15, .ref b16, .ref b17, .int 0, .int (-1), .int (-1), .ref b21, .ref b22, .ref b23, .ref b24, .ref b25, .ref b26, .int 0, .ref b28, .ref b29, .ref b30, .ref b31, .ref b32, .ref b33, .ref b34, .ref b35, .ref b36, .int 0, .int 0, .int 0, .int 0, .int 0, .int 0, .int 0, .int 0, .int 0, .ref b46, .ref b47, .ref b48, .ref b49, .ref b50, .ref b51, .ref b52, .ref b53, .ref b54, .ref b55, .ref b56, .ref b57, .ref b58, .ref b59, .ref b60, .ref b61, .ref b62, .ref b63]))]) X hW 0 ciX12 0 rfl (by decide) m_1231 rfl rfl rfl rfl (Nat.le_of_ble_eq_true rfl) rfl dX12_line_24 (fun H locs hW => ?_)
  refine lv_aload_n (pc := 27) hx hb dX12_line_27 rfl (lv_at hl 0 rfl) ?_
  refine r_get X hW 0 ciX12 0 rfl (by decide) m_1231 rfl rfl dX12_line_28 ?_
  refine lv_if_le (tgt := 36) (pc := 31) hx hb dX12_line_31 rfl (fun c3 => absurd c3 (by decide)) (fun c3 => ?_)
  refine lv_iconst (v := 0) (pc := 34) hx hb dX12_line_34 (by decide) ?_
  exact e_i X hQ hr hW (u := [(h0, .inr (12, [.int 1, .ref b1, .int 0, .int 0, .int 0, .int 0, .ref b6, .ref b7, .ref b8, .ref b9, .ref b10, .ref b11, .ref b12, .ref b13, .ref b14, .ref b15, .ref b16, .ref b17, .int 0, .int (-1), .int (-1), .ref b21, .ref b22, .ref b23, .ref b24, .ref b25, .ref b26, .int 0, .ref b28, .ref b29, .ref b30, .ref b31, .ref b32, .ref b33, .ref b34, .ref b35, .ref b36, .int 0, .int 0, .int 0, .int 0, .int 0, .int 0, .int 0, .int 0, .int 0, .ref b46, .ref b47, .ref b48, .ref b49, .ref b50, .ref b51, .ref b52, .ref b53, .ref b54, .ref b55, .ref b56, .ref b57, .ref b58, .ref b59, .ref b60, .ref b61, .ref b62, .ref b63]))]) [0] rfl rfl (⟨rfl, rfl⟩) ⟨Nat.le_of_ble_eq_true rfl, Nat.le_of_ble_eq_true rfl⟩ dX12_line_35
end
section
/-- the shifts by which both sides read a number's bytes -/
def sh : Nat → Int32
  | 0 => 24
  | 1 => 16
  | 2 => 8
  | 3 => 0
  | _ => (-8)
theorem sh_neg : ∀ j, j < 5 → (sh j < 0 ↔ j = 4) := by decide +kernel
theorem sh_step : ∀ j, j < 4 → sh j + Int32.ofInt (-8) = sh (j + 1) := by decide +kernel
def byx (v : Int32) (j : Nat) : Int32 := (v.toUInt32 >>> ((sh j).toUInt32 &&& Int32.toUInt32 31)).toInt32 &&& 255
def byz (v : Int32) (j : Nat) : Int32 := (v >>> (sh j &&& 31)) &&& 255
theorem byz_n (n : Nat) (hn : n < 25) (v : Int32) : (v >>> (nI n &&& 31)) &&& 255 = (v.toUInt32 >>> ((nI n).toUInt32 &&& Int32.toUInt32 31)).toInt32 &&& 255 := by
  refine b_ext fun i hi => ?_
  rw [b_and, b_and, b_sshr n (by omega) v hi, b_ushr n (by omega) v i, b_255]
  by_cases h : i < 8
  · rw [if_pos (by omega)]
  · simp [h]
theorem byz_eq (v : Int32) (j : Nat) (hj : j < 4) : byz v j = byx v j := by
  rcases (show j = 0 ∨ j = 1 ∨ j = 2 ∨ j = 3 by omega) with rfl | rfl | rfl | rfl
  · exact byz_n 24 (by decide) v
  · exact byz_n 16 (by decide) v
  · exact byz_n 8 (by decide) v
  · exact byz_n 0 (by decide) v
/-- how many of the first j bytes aren't 0 -/
def cnt (v : Int32) : Nat → Nat
  | 0 => 0
  | j + 1 => cnt v j + (if byx v j = 0 then 0 else 1)
theorem cnt_s0 {v : Int32} {j : Nat} (h : byx v j = 0) : cnt v (j + 1) = cnt v j := by simp [cnt, h]
theorem cnt_s1 {v : Int32} {j : Nat} (h : ¬ byx v j = 0) : cnt v (j + 1) = cnt v j + 1 := by simp [cnt, h]
theorem cnt_mono (v : Int32) (j : Nat) : cnt v j ≤ cnt v (j + 1) := by simp only [cnt]; omega
theorem cnt_le (v : Int32) (j : Nat) (hj : j ≤ 4) : cnt v j ≤ cnt v 4 := by
  have h0 : cnt v 0 ≤ cnt v 1 := cnt_mono v 0
  have h1 : cnt v 1 ≤ cnt v 2 := cnt_mono v 1
  have h2 : cnt v 2 ≤ cnt v 3 := cnt_mono v 2
  have h3 : cnt v 3 ≤ cnt v 4 := cnt_mono v 3
  rcases (show j = 0 ∨ j = 1 ∨ j = 2 ∨ j = 3 ∨ j = 4 by omega) with rfl | rfl | rfl | rfl | rfl <;> omega
theorem cnt_4 (v : Int32) : cnt v 4 ≤ 4 := by
  simp only [cnt]
  split <;> split <;> split <;> split <;> omega
/-- end(n) of an empty tape: true for 0 alone -/
def ev (n : Int32) : Int32 := if n = 0 then 1 else 0
theorem ev_1 {n : Int32} (h1 : ¬ n < 0) (h2 : n ≤ 0) : 1 = ev n := by
  have h3 : n = 0 := by
    rw [fa_lt] at h1; rw [fa_le] at h2; rw [fa_eq]
    have h4 : (0 : Int32).toInt = 0 := by decide
    omega
  rw [ev, if_pos h3]
theorem ev_0 {n : Int32} (h1 : n < 0) : 0 = ev n := by
  rw [ev, if_neg (fun h => by rw [h] at h1; exact absurd h1 (by decide))]
theorem ev_2 {n : Int32} (h1 : ¬ n ≤ 0) : 0 = ev n := by
  rw [ev, if_neg (fun h => by rw [h] at h1; exact absurd h1 (by decide))]
theorem ev_z (n : Int32) : narrow .boolean (.int (ev n)) = .int (ev n) := by
  unfold ev; split <;> rfl
theorem m_406 : (Cond.code yX8_bytesIn prog_10_method_5_code 3 (Option.some FieldType.int)) ∈ BW := bw (tb2 166 (by decide +kernel)) (by decide +kernel)
theorem dX8_bytesIn_0 : decode cX8_bytesIn 0 = .ok (.iconst 0, 1) := by decide +kernel
theorem dX8_bytesIn_1 : decode cX8_bytesIn 1 = .ok (.istore_n 1, 1) := by decide +kernel
theorem dX8_bytesIn_2 : decode cX8_bytesIn 2 = .ok (.bipush 24, 2) := by decide +kernel
theorem dX8_bytesIn_4 : decode cX8_bytesIn 4 = .ok (.istore_n 2, 1) := by decide +kernel
theorem dX8_bytesIn_5 : decode cX8_bytesIn 5 = .ok (.iload_n 2, 1) := by decide +kernel
theorem dX8_bytesIn_6 : decode cX8_bytesIn 6 = .ok (.ifCond .lt 22, 3) := by decide +kernel
theorem dX8_bytesIn_28 : decode cX8_bytesIn 28 = .ok (.iload_n 1, 1) := by decide +kernel
theorem dX8_bytesIn_29 : decode cX8_bytesIn 29 = .ok (.ireturn, 1) := by decide +kernel
theorem dX8_bytesIn_9 : decode cX8_bytesIn 9 = .ok (.iload_n 0, 1) := by decide +kernel
theorem dX8_bytesIn_10 : decode cX8_bytesIn 10 = .ok (.iload_n 2, 1) := by decide +kernel
theorem dX8_bytesIn_11 : decode cX8_bytesIn 11 = .ok (.iushr, 1) := by decide +kernel
theorem dX8_bytesIn_12 : decode cX8_bytesIn 12 = .ok (.sipush 255, 3) := by decide +kernel
theorem dX8_bytesIn_15 : decode cX8_bytesIn 15 = .ok (.iand, 1) := by decide +kernel
theorem dX8_bytesIn_16 : decode cX8_bytesIn 16 = .ok (.ifCond .eq 6, 3) := by decide +kernel
theorem dX8_bytesIn_22 : decode cX8_bytesIn 22 = .ok (.iinc 2 (-8), 3) := by decide +kernel
theorem dX8_bytesIn_25 : decode cX8_bytesIn 25 = .ok (.goto (-20), 3) := by decide +kernel
theorem dX8_bytesIn_19 : decode cX8_bytesIn 19 = .ok (.iinc 1 1, 3) := by decide +kernel
theorem m_1431 : (Cond.code yX12_bytesIn prog_14_method_4_code 3 (Option.some FieldType.int)) ∈ BW := bw (tb6 231 (by decide +kernel)) (by decide +kernel)
theorem dX12_bytesIn_0 : decode cX12_bytesIn 0 = .ok (.iconst 0, 1) := by decide +kernel
theorem dX12_bytesIn_1 : decode cX12_bytesIn 1 = .ok (.istore_n 1, 1) := by decide +kernel
theorem dX12_bytesIn_2 : decode cX12_bytesIn 2 = .ok (.bipush 24, 2) := by decide +kernel
theorem dX12_bytesIn_4 : decode cX12_bytesIn 4 = .ok (.istore_n 2, 1) := by decide +kernel
theorem dX12_bytesIn_5 : decode cX12_bytesIn 5 = .ok (.iload_n 2, 1) := by decide +kernel
theorem dX12_bytesIn_6 : decode cX12_bytesIn 6 = .ok (.ifCond .lt 27, 3) := by decide +kernel
theorem dX12_bytesIn_33 : decode cX12_bytesIn 33 = .ok (.iload_n 1, 1) := by decide +kernel
theorem dX12_bytesIn_34 : decode cX12_bytesIn 34 = .ok (.ireturn, 1) := by decide +kernel
theorem dX12_bytesIn_9 : decode cX12_bytesIn 9 = .ok (.iload_n 1, 1) := by decide +kernel
theorem dX12_bytesIn_10 : decode cX12_bytesIn 10 = .ok (.iload_n 0, 1) := by decide +kernel
theorem dX12_bytesIn_11 : decode cX12_bytesIn 11 = .ok (.iload_n 2, 1) := by decide +kernel
theorem dX12_bytesIn_12 : decode cX12_bytesIn 12 = .ok (.ishr, 1) := by decide +kernel
theorem dX12_bytesIn_13 : decode cX12_bytesIn 13 = .ok (.sipush 255, 3) := by decide +kernel
theorem dX12_bytesIn_16 : decode cX12_bytesIn 16 = .ok (.iand, 1) := by decide +kernel
theorem dX12_bytesIn_17 : decode cX12_bytesIn 17 = .ok (.ifCond .eq 7, 3) := by decide +kernel
theorem dX12_bytesIn_24 : decode cX12_bytesIn 24 = .ok (.iconst 0, 1) := by decide +kernel
theorem dX12_bytesIn_25 : decode cX12_bytesIn 25 = .ok (.iadd, 1) := by decide +kernel
theorem dX12_bytesIn_26 : decode cX12_bytesIn 26 = .ok (.istore_n 1, 1) := by decide +kernel
theorem dX12_bytesIn_27 : decode cX12_bytesIn 27 = .ok (.iinc 2 (-8), 3) := by decide +kernel
theorem dX12_bytesIn_30 : decode cX12_bytesIn 30 = .ok (.goto (-25), 3) := by decide +kernel
theorem dX12_bytesIn_20 : decode cX12_bytesIn 20 = .ok (.iconst 1, 1) := by decide +kernel
theorem dX12_bytesIn_21 : decode cX12_bytesIn 21 = .ok (.goto 4, 3) := by decide +kernel
theorem m_410 : (Cond.code yX8_appendNumber prog_10_method_6_code 4 (Option.none : Option Jvm.ClassFile.FieldType)) ∈ BW := bw (tb2 170 (by decide +kernel)) (by decide +kernel)
theorem dX8_appendNumber_0 : decode cX8_appendNumber 0 = .ok (.bipush 24, 2) := by decide +kernel
theorem dX8_appendNumber_2 : decode cX8_appendNumber 2 = .ok (.istore_n 2, 1) := by decide +kernel
theorem dX8_appendNumber_3 : decode cX8_appendNumber 3 = .ok (.iload_n 2, 1) := by decide +kernel
theorem dX8_appendNumber_4 : decode cX8_appendNumber 4 = .ok (.ifCond .lt 51, 3) := by decide +kernel
theorem dX8_appendNumber_55 : decode cX8_appendNumber 55 = .ok (.return_, 1) := by decide +kernel
theorem dX8_appendNumber_7 : decode cX8_appendNumber 7 = .ok (.iload_n 1, 1) := by decide +kernel
theorem dX8_appendNumber_8 : decode cX8_appendNumber 8 = .ok (.iload_n 2, 1) := by decide +kernel
theorem dX8_appendNumber_9 : decode cX8_appendNumber 9 = .ok (.iushr, 1) := by decide +kernel
theorem dX8_appendNumber_10 : decode cX8_appendNumber 10 = .ok (.sipush 255, 3) := by decide +kernel
theorem dX8_appendNumber_13 : decode cX8_appendNumber 13 = .ok (.iand, 1) := by decide +kernel
theorem dX8_appendNumber_14 : decode cX8_appendNumber 14 = .ok (.istore_n 3, 1) := by decide +kernel
theorem dX8_appendNumber_15 : decode cX8_appendNumber 15 = .ok (.iload_n 3, 1) := by decide +kernel
theorem dX8_appendNumber_16 : decode cX8_appendNumber 16 = .ok (.ifCond .eq 33, 3) := by decide +kernel
theorem dX8_appendNumber_49 : decode cX8_appendNumber 49 = .ok (.iinc 2 (-8), 3) := by decide +kernel
theorem dX8_appendNumber_52 : decode cX8_appendNumber 52 = .ok (.goto (-49), 3) := by decide +kernel
theorem dX8_appendNumber_19 : decode cX8_appendNumber 19 = .ok (.aload_n 0, 1) := by decide +kernel
theorem m_37 : (Cond.fieldLink "NoonValley$Tape" 19 "NoonValley$Tape" "length" "I") ∈ BW := bw (tb1 37 (by decide +kernel)) (by decide +kernel)
theorem dX8_appendNumber_20 : decode cX8_appendNumber 20 = .ok (.getfield 19, 3) := by decide +kernel
theorem dX8_appendNumber_23 : decode cX8_appendNumber 23 = .ok (.sipush 400, 3) := by decide +kernel
theorem dX8_appendNumber_26 : decode cX8_appendNumber 26 = .ok (.if_icmp .ge 23, 3) := by decide +kernel
theorem dX8_appendNumber_29 : decode cX8_appendNumber 29 = .ok (.aload_n 0, 1) := by decide +kernel
theorem dX8_appendNumber_30 : decode cX8_appendNumber 30 = .ok (.getfield 11, 3) := by decide +kernel
theorem dX8_appendNumber_33 : decode cX8_appendNumber 33 = .ok (.aload_n 0, 1) := by decide +kernel
theorem dX8_appendNumber_34 : decode cX8_appendNumber 34 = .ok (.getfield 19, 3) := by decide +kernel
theorem dX8_appendNumber_37 : decode cX8_appendNumber 37 = .ok (.iload_n 3, 1) := by decide +kernel
theorem dX8_appendNumber_38 : decode cX8_appendNumber 38 = .ok (.iastore, 1) := by decide +kernel
theorem dX8_appendNumber_39 : decode cX8_appendNumber 39 = .ok (.aload_n 0, 1) := by decide +kernel
theorem dX8_appendNumber_40 : decode cX8_appendNumber 40 = .ok (.dup, 1) := by decide +kernel
theorem dX8_appendNumber_41 : decode cX8_appendNumber 41 = .ok (.getfield 19, 3) := by decide +kernel
theorem dX8_appendNumber_44 : decode cX8_appendNumber 44 = .ok (.iconst 1, 1) := by decide +kernel
theorem dX8_appendNumber_45 : decode cX8_appendNumber 45 = .ok (.iadd, 1) := by decide +kernel
theorem dX8_appendNumber_46 : decode cX8_appendNumber 46 = .ok (.putfield 19, 3) := by decide +kernel
theorem m_403 : (Cond.code yX8_append prog_10_method_2_code 7 (Option.some FieldType.int)) ∈ BW := bw (tb2 163 (by decide +kernel)) (by decide +kernel)
theorem dX8_append_0 : decode cX8_append 0 = .ok (.iload_n 1, 1) := by decide +kernel
theorem m_404 : (Cond.methodLink "NoonValley$Tape" 15 yX8_bytesIn) ∈ BW := bw (tb2 164 (by decide +kernel)) (by decide +kernel)
theorem m_405 : (Cond.static yX8_bytesIn) ∈ BW := bw (tb2 165 (by decide +kernel)) (by decide +kernel)
theorem vX8_15 : LST RX8 15 yX8_bytesIn cX8_bytesIn 3 (some .int) 1 := ⟨m_404, m_405, m_2, m_406, by decide, by decide, by decide +kernel⟩
theorem dX8_append_1 : decode cX8_append 1 = .ok (.invokestatic 15, 3) := by decide +kernel
theorem dX8_append_4 : decode cX8_append 4 = .ok (.iload_n 2, 1) := by decide +kernel
theorem dX8_append_5 : decode cX8_append 5 = .ok (.invokestatic 15, 3) := by decide +kernel
theorem dX8_append_8 : decode cX8_append 8 = .ok (.iadd, 1) := by decide +kernel
theorem dX8_append_9 : decode cX8_append 9 = .ok (.iload_n 3, 1) := by decide +kernel
theorem dX8_append_10 : decode cX8_append 10 = .ok (.invokestatic 15, 3) := by decide +kernel
theorem dX8_append_13 : decode cX8_append 13 = .ok (.iadd, 1) := by decide +kernel
theorem dX8_append_14 : decode cX8_append 14 = .ok (.iload 4, 2) := by decide +kernel
theorem dX8_append_16 : decode cX8_append 16 = .ok (.invokestatic 15, 3) := by decide +kernel
theorem dX8_append_19 : decode cX8_append 19 = .ok (.iadd, 1) := by decide +kernel
theorem dX8_append_20 : decode cX8_append 20 = .ok (.iload 5, 2) := by decide +kernel
theorem dX8_append_22 : decode cX8_append 22 = .ok (.invokestatic 15, 3) := by decide +kernel
theorem dX8_append_25 : decode cX8_append 25 = .ok (.iadd, 1) := by decide +kernel
theorem dX8_append_26 : decode cX8_append 26 = .ok (.istore 6, 2) := by decide +kernel
theorem dX8_append_28 : decode cX8_append 28 = .ok (.aload_n 0, 1) := by decide +kernel
theorem dX8_append_29 : decode cX8_append 29 = .ok (.getfield 19, 3) := by decide +kernel
theorem dX8_append_32 : decode cX8_append 32 = .ok (.iload 6, 2) := by decide +kernel
theorem dX8_append_34 : decode cX8_append 34 = .ok (.iadd, 1) := by decide +kernel
theorem dX8_append_35 : decode cX8_append 35 = .ok (.sipush 400, 3) := by decide +kernel
theorem dX8_append_38 : decode cX8_append 38 = .ok (.if_icmp .le 5, 3) := by decide +kernel
theorem dX8_append_43 : decode cX8_append 43 = .ok (.aload_n 0, 1) := by decide +kernel
theorem dX8_append_44 : decode cX8_append 44 = .ok (.iload_n 1, 1) := by decide +kernel
theorem m_407 : (Cond.methodLink "NoonValley$Tape" 23 yX8_appendNumber) ∈ BW := bw (tb2 167 (by decide +kernel)) (by decide +kernel)
theorem m_409 : (Cond.instanceMethod yX8_appendNumber) ∈ BW := bw (tb2 169 (by decide +kernel)) (by decide +kernel)
theorem s_1_0 : (Cond.selects RX8 yX8_appendNumber yX8_appendNumber) ∈ BW := bw (sl1 (y := yX8_appendNumber) (n := 3) 0 (by decide +kernel)) (by decide +kernel)
theorem vX8_23 : LV RX8 23 RX8 yX8_appendNumber cX8_appendNumber 4 none 1 := ⟨m_407, m_409, s_1_0, m_2, m_410, rfl, by decide, by decide, by decide +kernel⟩
theorem dX8_append_45 : decode cX8_append 45 = .ok (.invokevirtual 23, 3) := by decide +kernel
theorem dX8_append_48 : decode cX8_append 48 = .ok (.aload_n 0, 1) := by decide +kernel
theorem dX8_append_49 : decode cX8_append 49 = .ok (.iload_n 2, 1) := by decide +kernel
theorem dX8_append_50 : decode cX8_append 50 = .ok (.invokevirtual 23, 3) := by decide +kernel
theorem dX8_append_53 : decode cX8_append 53 = .ok (.aload_n 0, 1) := by decide +kernel
theorem dX8_append_54 : decode cX8_append 54 = .ok (.iload_n 3, 1) := by decide +kernel
theorem dX8_append_55 : decode cX8_append 55 = .ok (.invokevirtual 23, 3) := by decide +kernel
theorem dX8_append_58 : decode cX8_append 58 = .ok (.aload_n 0, 1) := by decide +kernel
theorem dX8_append_59 : decode cX8_append 59 = .ok (.iload 4, 2) := by decide +kernel
theorem dX8_append_61 : decode cX8_append 61 = .ok (.invokevirtual 23, 3) := by decide +kernel
theorem dX8_append_64 : decode cX8_append 64 = .ok (.aload_n 0, 1) := by decide +kernel
theorem dX8_append_65 : decode cX8_append 65 = .ok (.iload 5, 2) := by decide +kernel
theorem dX8_append_67 : decode cX8_append 67 = .ok (.invokevirtual 23, 3) := by decide +kernel
theorem dX8_append_70 : decode cX8_append 70 = .ok (.aload_n 0, 1) := by decide +kernel
theorem dX8_append_71 : decode cX8_append 71 = .ok (.getfield 19, 3) := by decide +kernel
theorem dX8_append_74 : decode cX8_append 74 = .ok (.ireturn, 1) := by decide +kernel
theorem m_399 : (Cond.code yX11_feed prog_1_method_2_code 6 (Option.some FieldType.int)) ∈ BW := bw (tb2 159 (by decide +kernel)) (by decide +kernel)
theorem dX11_feed_0 : decode cX11_feed 0 = .ok (.aload_n 0, 1) := by decide +kernel
theorem dX11_feed_1 : decode cX11_feed 1 = .ok (.getfield 10, 3) := by decide +kernel
theorem dX11_feed_4 : decode cX11_feed 4 = .ok (.iload_n 1, 1) := by decide +kernel
theorem dX11_feed_5 : decode cX11_feed 5 = .ok (.iload_n 2, 1) := by decide +kernel
theorem dX11_feed_6 : decode cX11_feed 6 = .ok (.iload_n 3, 1) := by decide +kernel
theorem dX11_feed_7 : decode cX11_feed 7 = .ok (.iload 4, 2) := by decide +kernel
theorem dX11_feed_9 : decode cX11_feed 9 = .ok (.iload 5, 2) := by decide +kernel
theorem m_400 : (Cond.methodLink "NoonValley" 82 yX8_append) ∈ BW := bw (tb2 160 (by decide +kernel)) (by decide +kernel)
theorem m_401 : (Cond.instanceMethod yX8_append) ∈ BW := bw (tb2 161 (by decide +kernel)) (by decide +kernel)
theorem m_402 : (Cond.selects "NoonValley$Tape" yX8_append yX8_append) ∈ BW := bw (tb2 162 (by decide +kernel)) (by decide +kernel)
theorem vX11_82 : LV RX11 82 RX8 yX8_append cX8_append 7 (some .int) 5 := ⟨m_400, m_401, m_402, m_2, m_403, rfl, by decide, by decide, by decide +kernel⟩
theorem dX11_feed_11 : decode cX11_feed 11 = .ok (.invokevirtual 82, 3) := by decide +kernel
theorem dX11_feed_14 : decode cX11_feed 14 = .ok (.ireturn, 1) := by decide +kernel
theorem m_418 : (Cond.code yX8_cut prog_10_method_3_code 2 (Option.some FieldType.boolean)) ∈ BW := bw (tb2 178 (by decide +kernel)) (by decide +kernel)
theorem dX8_cut_0 : decode cX8_cut 0 = .ok (.iload_n 1, 1) := by decide +kernel
theorem dX8_cut_1 : decode cX8_cut 1 = .ok (.ifCond .lt 11, 3) := by decide +kernel
theorem dX8_cut_12 : decode cX8_cut 12 = .ok (.iconst 0, 1) := by decide +kernel
theorem dX8_cut_13 : decode cX8_cut 13 = .ok (.ireturn, 1) := by decide +kernel
theorem dX8_cut_4 : decode cX8_cut 4 = .ok (.iload_n 1, 1) := by decide +kernel
theorem dX8_cut_5 : decode cX8_cut 5 = .ok (.aload_n 0, 1) := by decide +kernel
theorem dX8_cut_6 : decode cX8_cut 6 = .ok (.getfield 19, 3) := by decide +kernel
theorem dX8_cut_9 : decode cX8_cut 9 = .ok (.if_icmp .le 5, 3) := by decide +kernel
theorem dX8_cut_14 : decode cX8_cut 14 = .ok (.aload_n 0, 1) := by decide +kernel
theorem dX8_cut_15 : decode cX8_cut 15 = .ok (.iload_n 1, 1) := by decide +kernel
theorem dX8_cut_16 : decode cX8_cut 16 = .ok (.putfield 19, 3) := by decide +kernel
theorem dX8_cut_19 : decode cX8_cut 19 = .ok (.iconst 1, 1) := by decide +kernel
theorem dX8_cut_20 : decode cX8_cut 20 = .ok (.ireturn, 1) := by decide +kernel
theorem m_414 : (Cond.code yX11_end prog_1_method_3_code 2 (Option.some FieldType.boolean)) ∈ BW := bw (tb2 174 (by decide +kernel)) (by decide +kernel)
theorem dX11_end_0 : decode cX11_end 0 = .ok (.aload_n 0, 1) := by decide +kernel
theorem dX11_end_1 : decode cX11_end 1 = .ok (.getfield 10, 3) := by decide +kernel
theorem dX11_end_4 : decode cX11_end 4 = .ok (.iload_n 1, 1) := by decide +kernel
theorem m_415 : (Cond.methodLink "NoonValley" 86 yX8_cut) ∈ BW := bw (tb2 175 (by decide +kernel)) (by decide +kernel)
theorem m_416 : (Cond.instanceMethod yX8_cut) ∈ BW := bw (tb2 176 (by decide +kernel)) (by decide +kernel)
theorem m_417 : (Cond.selects "NoonValley$Tape" yX8_cut yX8_cut) ∈ BW := bw (tb2 177 (by decide +kernel)) (by decide +kernel)
theorem vX11_86 : LV RX11 86 RX8 yX8_cut cX8_cut 2 (some .boolean) 1 := ⟨m_415, m_416, m_417, m_2, m_418, rfl, by decide, by decide, by decide +kernel⟩
theorem dX11_end_5 : decode cX11_end 5 = .ok (.invokevirtual 86, 3) := by decide +kernel
theorem dX11_end_8 : decode cX11_end 8 = .ok (.ireturn, 1) := by decide +kernel
theorem m_1439 : (Cond.code yX12_end prog_14_method_7_code 2 (Option.some FieldType.boolean)) ∈ BW := bw (tb6 239 (by decide +kernel)) (by decide +kernel)
theorem dX12_end_0 : decode cX12_end 0 = .ok (.aload_n 0, 1) := by decide +kernel
theorem dX12_end_1 : decode cX12_end 1 = .ok (.iconst 0, 1) := by decide +kernel
theorem dX12_end_2 : decode cX12_end 2 = .ok (.putfield 160, 3) := by decide +kernel
theorem dX12_end_5 : decode cX12_end 5 = .ok (.iload_n 1, 1) := by decide +kernel
theorem dX12_end_6 : decode cX12_end 6 = .ok (.ifCond .lt 11, 3) := by decide +kernel
theorem dX12_end_17 : decode cX12_end 17 = .ok (.iconst 0, 1) := by decide +kernel
theorem dX12_end_18 : decode cX12_end 18 = .ok (.ireturn, 1) := by decide +kernel
theorem dX12_end_9 : decode cX12_end 9 = .ok (.iload_n 1, 1) := by decide +kernel
theorem dX12_end_10 : decode cX12_end 10 = .ok (.aload_n 0, 1) := by decide +kernel
theorem m_1233 : (Cond.fieldLink "NoonValleyModel" 163 "NoonValleyModel" "length" "I") ∈ BW := bw (tb6 33 (by decide +kernel)) (by decide +kernel)
theorem dX12_end_11 : decode cX12_end 11 = .ok (.getfield 163, 3) := by decide +kernel
theorem dX12_end_14 : decode cX12_end 14 = .ok (.if_icmp .le 5, 3) := by decide +kernel
theorem dX12_end_19 : decode cX12_end 19 = .ok (.aload_n 0, 1) := by decide +kernel
theorem dX12_end_20 : decode cX12_end 20 = .ok (.iload_n 1, 1) := by decide +kernel
theorem dX12_end_21 : decode cX12_end 21 = .ok (.putfield 163, 3) := by decide +kernel
theorem dX12_end_24 : decode cX12_end 24 = .ok (.iconst 1, 1) := by decide +kernel
theorem dX12_end_25 : decode cX12_end 25 = .ok (.ireturn, 1) := by decide +kernel
theorem m_1435 : (Cond.code yX12_put prog_14_method_5_code 3 (Option.none : Option Jvm.ClassFile.FieldType)) ∈ BW := bw (tb6 235 (by decide +kernel)) (by decide +kernel)
theorem dX12_put_0 : decode cX12_put 0 = .ok (.bipush 24, 2) := by decide +kernel
theorem dX12_put_2 : decode cX12_put 2 = .ok (.istore_n 2, 1) := by decide +kernel
theorem dX12_put_3 : decode cX12_put 3 = .ok (.iload_n 2, 1) := by decide +kernel
theorem dX12_put_4 : decode cX12_put 4 = .ok (.ifCond .lt 45, 3) := by decide +kernel
theorem dX12_put_49 : decode cX12_put 49 = .ok (.return_, 1) := by decide +kernel
theorem dX12_put_7 : decode cX12_put 7 = .ok (.iload_n 1, 1) := by decide +kernel
theorem dX12_put_8 : decode cX12_put 8 = .ok (.iload_n 2, 1) := by decide +kernel
theorem dX12_put_9 : decode cX12_put 9 = .ok (.ishr, 1) := by decide +kernel
theorem dX12_put_10 : decode cX12_put 10 = .ok (.sipush 255, 3) := by decide +kernel
theorem dX12_put_13 : decode cX12_put 13 = .ok (.iand, 1) := by decide +kernel
theorem dX12_put_14 : decode cX12_put 14 = .ok (.ifCond .ne 6, 3) := by decide +kernel
theorem dX12_put_20 : decode cX12_put 20 = .ok (.aload_n 0, 1) := by decide +kernel
theorem dX12_put_21 : decode cX12_put 21 = .ok (.getfield 9, 3) := by decide +kernel
theorem dX12_put_24 : decode cX12_put 24 = .ok (.aload_n 0, 1) := by decide +kernel
theorem dX12_put_25 : decode cX12_put 25 = .ok (.getfield 163, 3) := by decide +kernel
theorem dX12_put_28 : decode cX12_put 28 = .ok (.iload_n 1, 1) := by decide +kernel
theorem dX12_put_29 : decode cX12_put 29 = .ok (.iload_n 2, 1) := by decide +kernel
theorem dX12_put_30 : decode cX12_put 30 = .ok (.ishr, 1) := by decide +kernel
theorem dX12_put_31 : decode cX12_put 31 = .ok (.i2b, 1) := by decide +kernel
theorem dX12_put_32 : decode cX12_put 32 = .ok (.bastore, 1) := by decide +kernel
theorem dX12_put_33 : decode cX12_put 33 = .ok (.aload_n 0, 1) := by decide +kernel
theorem dX12_put_34 : decode cX12_put 34 = .ok (.dup, 1) := by decide +kernel
theorem dX12_put_35 : decode cX12_put 35 = .ok (.getfield 163, 3) := by decide +kernel
theorem dX12_put_38 : decode cX12_put 38 = .ok (.iconst 1, 1) := by decide +kernel
theorem dX12_put_39 : decode cX12_put 39 = .ok (.iadd, 1) := by decide +kernel
theorem dX12_put_40 : decode cX12_put 40 = .ok (.putfield 163, 3) := by decide +kernel
theorem dX12_put_43 : decode cX12_put 43 = .ok (.iinc 2 (-8), 3) := by decide +kernel
theorem dX12_put_46 : decode cX12_put 46 = .ok (.goto (-43), 3) := by decide +kernel
theorem dX12_put_17 : decode cX12_put 17 = .ok (.goto 26, 3) := by decide +kernel
theorem m_1428 : (Cond.code yX12_feed prog_14_method_6_code 6 (Option.some FieldType.int)) ∈ BW := bw (tb6 228 (by decide +kernel)) (by decide +kernel)
theorem dX12_feed_0 : decode cX12_feed 0 = .ok (.aload_n 0, 1) := by decide +kernel
theorem dX12_feed_1 : decode cX12_feed 1 = .ok (.iconst 0, 1) := by decide +kernel
theorem dX12_feed_2 : decode cX12_feed 2 = .ok (.putfield 160, 3) := by decide +kernel
theorem dX12_feed_5 : decode cX12_feed 5 = .ok (.aload_n 0, 1) := by decide +kernel
theorem dX12_feed_6 : decode cX12_feed 6 = .ok (.getfield 163, 3) := by decide +kernel
theorem dX12_feed_9 : decode cX12_feed 9 = .ok (.iload_n 1, 1) := by decide +kernel
theorem m_1429 : (Cond.methodLink "NoonValleyModel" 166 yX12_bytesIn) ∈ BW := bw (tb6 229 (by decide +kernel)) (by decide +kernel)
theorem m_1430 : (Cond.static yX12_bytesIn) ∈ BW := bw (tb6 230 (by decide +kernel)) (by decide +kernel)
theorem vX12_166 : LST RX12 166 yX12_bytesIn cX12_bytesIn 3 (some .int) 1 := ⟨m_1429, m_1430, m_12, m_1431, by decide, by decide, by decide +kernel⟩
theorem dX12_feed_10 : decode cX12_feed 10 = .ok (.invokestatic 166, 3) := by decide +kernel
theorem dX12_feed_13 : decode cX12_feed 13 = .ok (.iadd, 1) := by decide +kernel
theorem dX12_feed_14 : decode cX12_feed 14 = .ok (.iload_n 2, 1) := by decide +kernel
theorem dX12_feed_15 : decode cX12_feed 15 = .ok (.invokestatic 166, 3) := by decide +kernel
theorem dX12_feed_18 : decode cX12_feed 18 = .ok (.iadd, 1) := by decide +kernel
theorem dX12_feed_19 : decode cX12_feed 19 = .ok (.iload_n 3, 1) := by decide +kernel
theorem dX12_feed_20 : decode cX12_feed 20 = .ok (.invokestatic 166, 3) := by decide +kernel
theorem dX12_feed_23 : decode cX12_feed 23 = .ok (.iadd, 1) := by decide +kernel
theorem dX12_feed_24 : decode cX12_feed 24 = .ok (.iload 4, 2) := by decide +kernel
theorem dX12_feed_26 : decode cX12_feed 26 = .ok (.invokestatic 166, 3) := by decide +kernel
theorem dX12_feed_29 : decode cX12_feed 29 = .ok (.iadd, 1) := by decide +kernel
theorem dX12_feed_30 : decode cX12_feed 30 = .ok (.iload 5, 2) := by decide +kernel
theorem dX12_feed_32 : decode cX12_feed 32 = .ok (.invokestatic 166, 3) := by decide +kernel
theorem dX12_feed_35 : decode cX12_feed 35 = .ok (.iadd, 1) := by decide +kernel
theorem dX12_feed_36 : decode cX12_feed 36 = .ok (.sipush 400, 3) := by decide +kernel
theorem dX12_feed_39 : decode cX12_feed 39 = .ok (.if_icmp .le 5, 3) := by decide +kernel
theorem dX12_feed_44 : decode cX12_feed 44 = .ok (.aload_n 0, 1) := by decide +kernel
theorem dX12_feed_45 : decode cX12_feed 45 = .ok (.iload_n 1, 1) := by decide +kernel
theorem m_1432 : (Cond.methodLink "NoonValleyModel" 170 yX12_put) ∈ BW := bw (tb6 232 (by decide +kernel)) (by decide +kernel)
theorem m_1434 : (Cond.instanceMethod yX12_put) ∈ BW := bw (tb6 234 (by decide +kernel)) (by decide +kernel)
theorem s_4_3 : (Cond.selects RX12 yX12_put yX12_put) ∈ BW := bw (sl4 (y := yX12_put) (n := 64) 3 (by decide +kernel)) (by decide +kernel)
theorem vX12_170 : LV RX12 170 RX12 yX12_put cX12_put 3 none 1 := ⟨m_1432, m_1434, s_4_3, m_12, m_1435, rfl, by decide, by decide, by decide +kernel⟩
theorem dX12_feed_46 : decode cX12_feed 46 = .ok (.invokevirtual 170, 3) := by decide +kernel
theorem dX12_feed_49 : decode cX12_feed 49 = .ok (.aload_n 0, 1) := by decide +kernel
theorem dX12_feed_50 : decode cX12_feed 50 = .ok (.iload_n 2, 1) := by decide +kernel
theorem dX12_feed_51 : decode cX12_feed 51 = .ok (.invokevirtual 170, 3) := by decide +kernel
theorem dX12_feed_54 : decode cX12_feed 54 = .ok (.aload_n 0, 1) := by decide +kernel
theorem dX12_feed_55 : decode cX12_feed 55 = .ok (.iload_n 3, 1) := by decide +kernel
theorem dX12_feed_56 : decode cX12_feed 56 = .ok (.invokevirtual 170, 3) := by decide +kernel
theorem dX12_feed_59 : decode cX12_feed 59 = .ok (.aload_n 0, 1) := by decide +kernel
theorem dX12_feed_60 : decode cX12_feed 60 = .ok (.iload 4, 2) := by decide +kernel
theorem dX12_feed_62 : decode cX12_feed 62 = .ok (.invokevirtual 170, 3) := by decide +kernel
theorem dX12_feed_65 : decode cX12_feed 65 = .ok (.aload_n 0, 1) := by decide +kernel
theorem dX12_feed_66 : decode cX12_feed 66 = .ok (.iload 5, 2) := by decide +kernel
theorem dX12_feed_68 : decode cX12_feed 68 = .ok (.invokevirtual 170, 3) := by decide +kernel
theorem dX12_feed_71 : decode cX12_feed 71 = .ok (.aload_n 0, 1) := by decide +kernel
theorem dX12_feed_72 : decode cX12_feed 72 = .ok (.getfield 163, 3) := by decide +kernel
theorem dX12_feed_75 : decode cX12_feed 75 = .ok (.ireturn, 1) := by decide +kernel
set_option maxHeartbeats 4000000 in
set_option maxRecDepth 100000 in
theorem C_X8_bytesIn (l : Launch) (g : GG) (v : Int32) : MetI l g yX8_bytesIn cX8_bytesIn 3 (some .int) 0 0 0 [.int v] [] (fun r u => r = nI (cnt v 4) ∧ u = []) := by
  refine MetI.of (own := RX8) rfl (by decide) (Nat.le_of_ble_eq_true rfl) ?_
  intro p e s m below meth c A ls args Q hQ X hr hin hW hl
  have hx := X.1
  have hb := X.2.1
  have hl : lv_has ls 3 [(0, .int v)] := hl
  refine lv_iconst (v := 0) (pc := 0) hx hb dX8_bytesIn_0 (by decide) ?_
  refine lv_istore_n (lv' := [(1, .int 0), (0, .int v)]) (pc := 1) hx hb dX8_bytesIn_1 rfl hl (by decide) rfl (fun ls hl => ?_)
  refine lv_bipush (v := 24) (pc := 2) hx hb dX8_bytesIn_2 (by decide) ?_
  refine lv_istore_n (lv' := [(2, .int 24), (1, .int 0), (0, .int v)]) (pc := 4) hx hb dX8_bytesIn_4 rfl hl (by decide) rfl (fun ls hl => ?_)
  have loop1 : ∀ (n : Nat) (j : Nat) (b : Int32), (5 ≤ n + j) → (j < 5) → (b = nI (cnt v j)) → ∀ (H : Heap) (locs : List Loc) (ls : Array Slot), WD g A s H locs [] → lv_has ls 3 [(0, .int v), (1, .int b), (2, .int (sh j))] → W p l e (RM 0 0 0) s m args below meth c H locs 0 0 Q (F0 m 5 ls []) := by
    intro n
    induction n with
    | zero =>
      intro j b hm hj hbj
      exact absurd hm (by omega)
    | succ n ih1 =>
      intro j b hm hj hbj H locs ls hW hl
      refine lv_iload_n (pc := 5) hx hb dX8_bytesIn_5 rfl (lv_at hl 2 rfl) ?_
      refine lv_if_lt (tgt := 28) (pc := 6) hx hb dX8_bytesIn_6 rfl (fun c1 => ?_) (fun c1 => ?_)
      · have hex := c1
        refine lv_iload_n (pc := 28) hx hb dX8_bytesIn_28 rfl (lv_at hl 1 rfl) ?_
        exact e_i X hQ hr hW (u := []) [] rfl rfl (⟨by rw [hbj, (sh_neg j hj).mp hex], rfl⟩) ⟨Nat.le_of_ble_eq_true rfl, Nat.le_of_ble_eq_true rfl⟩ dX8_bytesIn_29
      · have h4 : j < 4 := by have h9 := (not_congr (sh_neg j hj)).mp c1; omega
        refine lv_iload_n (pc := 9) hx hb dX8_bytesIn_9 rfl (lv_at hl 0 rfl) ?_
        refine lv_iload_n (pc := 10) hx hb dX8_bytesIn_10 rfl (lv_at hl 2 rfl) ?_
        refine lv_iushr (pc := 11) hx hb dX8_bytesIn_11 rfl ?_
        refine lv_topi (fun v2 ev2 => ?_)
        obtain rfl : v2 = (v.toUInt32 >>> ((sh j).toUInt32 &&& Int32.toUInt32 31)).toInt32 := ev2.trans (rfl)
        refine lv_sipush (v := 255) (pc := 12) hx hb dX8_bytesIn_12 (by decide) ?_
        refine lv_iand (pc := 15) hx hb dX8_bytesIn_15 ?_
        refine lv_topi (fun v3 ev3 => ?_)
        obtain rfl : v3 = byx v j := ev3.trans (rfl)
        refine lv_if_eq (tgt := 22) (pc := 16) hx hb dX8_bytesIn_16 rfl (fun c4 => ?_) (fun c4 => ?_)
        · have hbn : b = nI (cnt v (j + 1)) := by rw [cnt_s0 c4, hbj]
          refine lv_iinc (v := sh (j + 1)) (lv' := [(2, .int (sh (j + 1))), (0, .int v), (1, .int b)]) (pc := 22) hx hb dX8_bytesIn_22 hl (k := 2) rfl (sh_step j h4) (by decide) rfl (fun ls hl => ?_)
          refine lv_goto (tgt := 5) (pc := 25) hx hb dX8_bytesIn_25 rfl ?_
          exact ih1 (j + 1) b (by omega) (by omega) hbn _ _ _ hW (lv_sub hl [1, 2, 0] rfl)
        · have hz0 := c4
          refine lv_iinc (v := nI (cnt v j + 1)) (lv' := [(1, .int (nI (cnt v j + 1))), (0, .int v), (2, .int (sh j))]) (pc := 19) hx hb dX8_bytesIn_19 hl (k := 1) rfl (by rw [hbj]; exact nI_1 _) (by decide) rfl (fun ls hl => ?_)
          have hbn : nI (cnt v j + 1) = nI (cnt v (j + 1)) := by rw [cnt_s1 hz0]
          refine lv_iinc (v := sh (j + 1)) (lv' := [(2, .int (sh (j + 1))), (1, .int (nI (cnt v j + 1))), (0, .int v)]) (pc := 22) hx hb dX8_bytesIn_22 hl (k := 2) rfl (sh_step j h4) (by decide) rfl (fun ls hl => ?_)
          refine lv_goto (tgt := 5) (pc := 25) hx hb dX8_bytesIn_25 rfl ?_
          exact ih1 (j + 1) (nI (cnt v j + 1)) (by omega) (by omega) hbn _ _ _ hW (lv_sub hl [2, 1, 0] rfl)
  exact loop1 5 0 0 (by decide) (by decide) rfl _ _ _ hW (lv_sub hl [2, 1, 0] rfl)

set_option maxHeartbeats 4000000 in
set_option maxRecDepth 100000 in
theorem C_X12_bytesIn (l : Launch) (g : GG) (v : Int32) : MetI l g yX12_bytesIn cX12_bytesIn 3 (some .int) 0 0 0 [.int v] [] (fun r u => r = nI (cnt v 4) ∧ u = []) := by
  refine MetI.of (own := RX12) rfl (by decide) (Nat.le_of_ble_eq_true rfl) ?_
  intro p e s m below meth c A ls args Q hQ X hr hin hW hl
  have hx := X.1
  have hb := X.2.1
  have hl : lv_has ls 3 [(0, .int v)] := hl
  refine lv_iconst (v := 0) (pc := 0) hx hb dX12_bytesIn_0 (by decide) ?_
  refine lv_istore_n (lv' := [(1, .int 0), (0, .int v)]) (pc := 1) hx hb dX12_bytesIn_1 rfl hl (by decide) rfl (fun ls hl => ?_)
  refine lv_bipush (v := 24) (pc := 2) hx hb dX12_bytesIn_2 (by decide) ?_
  refine lv_istore_n (lv' := [(2, .int 24), (1, .int 0), (0, .int v)]) (pc := 4) hx hb dX12_bytesIn_4 rfl hl (by decide) rfl (fun ls hl => ?_)
  have loop1 : ∀ (n : Nat) (j : Nat) (b : Int32), (5 ≤ n + j) → (j < 5) → (b = nI (cnt v j)) → ∀ (H : Heap) (locs : List Loc) (ls : Array Slot), WD g A s H locs [] → lv_has ls 3 [(0, .int v), (1, .int b), (2, .int (sh j))] → W p l e (RM 0 0 0) s m args below meth c H locs 0 0 Q (F0 m 5 ls []) := by
    intro n
    induction n with
    | zero =>
      intro j b hm hj hbj
      exact absurd hm (by omega)
    | succ n ih1 =>
      intro j b hm hj hbj H locs ls hW hl
      refine lv_iload_n (pc := 5) hx hb dX12_bytesIn_5 rfl (lv_at hl 2 rfl) ?_
      refine lv_if_lt (tgt := 33) (pc := 6) hx hb dX12_bytesIn_6 rfl (fun c1 => ?_) (fun c1 => ?_)
      · have hex := c1
        refine lv_iload_n (pc := 33) hx hb dX12_bytesIn_33 rfl (lv_at hl 1 rfl) ?_
        exact e_i X hQ hr hW (u := []) [] rfl rfl (⟨by rw [hbj, (sh_neg j hj).mp hex], rfl⟩) ⟨Nat.le_of_ble_eq_true rfl, Nat.le_of_ble_eq_true rfl⟩ dX12_bytesIn_34
      · have h4 : j < 4 := by have h9 := (not_congr (sh_neg j hj)).mp c1; omega
        refine lv_iload_n (pc := 9) hx hb dX12_bytesIn_9 rfl (lv_at hl 1 rfl) ?_
        refine lv_iload_n (pc := 10) hx hb dX12_bytesIn_10 rfl (lv_at hl 0 rfl) ?_
        refine lv_iload_n (pc := 11) hx hb dX12_bytesIn_11 rfl (lv_at hl 2 rfl) ?_
        refine lv_ishr (pc := 12) hx hb dX12_bytesIn_12 ?_
        refine lv_topi (fun v2 ev2 => ?_)
        obtain rfl : v2 = v >>> (sh j &&& 31) := ev2.trans (rfl)
        refine lv_sipush (v := 255) (pc := 13) hx hb dX12_bytesIn_13 (by decide) ?_
        refine lv_iand (pc := 16) hx hb dX12_bytesIn_16 ?_
        refine lv_topi (fun v3 ev3 => ?_)
        obtain rfl : v3 = byx v j := ev3.trans (byz_eq v j h4)
        refine lv_if_eq (tgt := 24) (pc := 17) hx hb dX12_bytesIn_17 rfl (fun c4 => ?_) (fun c4 => ?_)
        · refine lv_iconst (v := 0) (pc := 24) hx hb dX12_bytesIn_24 (by decide) ?_
          refine lv_iadd (pc := 25) hx hb dX12_bytesIn_25 ?_
          refine lv_topi (fun v5 ev5 => ?_)
          obtain rfl : v5 = nI (cnt v (j + 1)) := ev5.trans (by rw [hbj, cnt_s0 c4]; exact Int32.add_zero _)
          refine lv_istore_n (lv' := [(1, .int (nI (cnt v (j + 1)))), (0, .int v), (2, .int (sh j))]) (pc := 26) hx hb dX12_bytesIn_26 rfl hl (by decide) rfl (fun ls hl => ?_)
          refine lv_iinc (v := sh (j + 1)) (lv' := [(2, .int (sh (j + 1))), (1, .int (nI (cnt v (j + 1)))), (0, .int v)]) (pc := 27) hx hb dX12_bytesIn_27 hl (k := 2) rfl (sh_step j h4) (by decide) rfl (fun ls hl => ?_)
          refine lv_goto (tgt := 5) (pc := 30) hx hb dX12_bytesIn_30 rfl ?_
          exact ih1 (j + 1) (nI (cnt v (j + 1))) (by omega) (by omega) rfl _ _ _ hW (lv_sub hl [2, 1, 0] rfl)
        · refine lv_iconst (v := 1) (pc := 20) hx hb dX12_bytesIn_20 (by decide) ?_
          refine lv_goto (tgt := 25) (pc := 21) hx hb dX12_bytesIn_21 rfl ?_
          refine lv_iadd (pc := 25) hx hb dX12_bytesIn_25 ?_
          refine lv_topi (fun v6 ev6 => ?_)
          obtain rfl : v6 = nI (cnt v (j + 1)) := ev6.trans (by rw [hbj, cnt_s1 c4]; exact nI_1 _)
          refine lv_istore_n (lv' := [(1, .int (nI (cnt v (j + 1)))), (0, .int v), (2, .int (sh j))]) (pc := 26) hx hb dX12_bytesIn_26 rfl hl (by decide) rfl (fun ls hl => ?_)
          refine lv_iinc (v := sh (j + 1)) (lv' := [(2, .int (sh (j + 1))), (1, .int (nI (cnt v (j + 1)))), (0, .int v)]) (pc := 27) hx hb dX12_bytesIn_27 hl (k := 2) rfl (sh_step j h4) (by decide) rfl (fun ls hl => ?_)
          refine lv_goto (tgt := 5) (pc := 30) hx hb dX12_bytesIn_30 rfl ?_
          exact ih1 (j + 1) (nI (cnt v (j + 1))) (by omega) (by omega) rfl _ _ _ hW (lv_sub hl [2, 1, 0] rfl)
  exact loop1 5 0 0 (by decide) (by decide) rfl _ _ _ hW (lv_sub hl [2, 1, 0] rfl)

set_option maxHeartbeats 4000000 in
set_option maxRecDepth 100000 in
theorem C_X8_appendNumber (l : Launch) (g : GG) (h0 q : Nat) (f0 : Nat → Int32) (n0 : Nat) (pl v : Int32) (hn : n0 + cnt v 4 ≤ 400) : MetV l g yX8_appendNumber cX8_appendNumber 4 none 0 0 0 [.ref h0, .int v] [(h0, .inr (8, [.ref q, .int (nI n0), .int pl])), (q, .inl (g.2.1 1, 400, .inl f0))] (fun u => ∃ f : Nat → Int32, u = [(h0, .inr (8, [.ref q, .int (nI (n0 + cnt v 4)), .int pl])), (q, .inl (g.2.1 1, 400, .inl f))]) := by
  refine MetV.of (own := RX8) rfl (by decide) (Nat.le_of_ble_eq_true rfl) ?_
  intro p e s m below meth c A ls args Q hQ X hr hin hW hl
  have hx := X.1
  have hb := X.2.1
  have hl : lv_has ls 4 [(0, .ref h0), (1, .int v)] := hl
  refine lv_bipush (v := 24) (pc := 0) hx hb dX8_appendNumber_0 (by decide) ?_
  refine lv_istore_n (lv' := [(2, .int 24), (0, .ref h0), (1, .int v)]) (pc := 2) hx hb dX8_appendNumber_2 rfl hl (by decide) rfl (fun ls hl => ?_)
  have loop1 : ∀ (n : Nat) (j : Nat) (k : Nat) (f : Nat → Int32), (5 ≤ n + j) → (j < 5) → (k = n0 + cnt v j) → ∀ (H : Heap) (locs : List Loc) (ls : Array Slot), WD g A s H locs [(h0, .inr (8, [.ref q, .int (nI k), .int pl])), (q, .inl (g.2.1 1, 400, .inl f))] → lv_has ls 4 [(0, .ref h0), (1, .int v), (2, .int (sh j))] → W p l e (RM 0 0 0) s m args below meth c H locs 0 0 Q (F0 m 3 ls []) := by
    intro n
    induction n with
    | zero =>
      intro j k f hm hj hk
      exact absurd hm (by omega)
    | succ n ih1 =>
      intro j k f hm hj hk H locs ls hW hl
      refine lv_iload_n (pc := 3) hx hb dX8_appendNumber_3 rfl (lv_at hl 2 rfl) ?_
      refine lv_if_lt (tgt := 55) (pc := 4) hx hb dX8_appendNumber_4 rfl (fun c1 => ?_) (fun c1 => ?_)
      · have hex := c1
        exact e_v X hQ hr hW (u := [(h0, .inr (8, [.ref q, .int (nI k), .int pl])), (q, .inl (g.2.1 1, 400, .inl f))]) [0, 1] rfl rfl (⟨f, by rw [hk, (sh_neg j hj).mp hex]⟩) ⟨Nat.le_of_ble_eq_true rfl, Nat.le_of_ble_eq_true rfl⟩ dX8_appendNumber_55
      · have h4 : j < 4 := by have h9 := (not_congr (sh_neg j hj)).mp c1; omega
        refine lv_iload_n (pc := 7) hx hb dX8_appendNumber_7 rfl (lv_at hl 1 rfl) ?_
        refine lv_iload_n (pc := 8) hx hb dX8_appendNumber_8 rfl (lv_at hl 2 rfl) ?_
        refine lv_iushr (pc := 9) hx hb dX8_appendNumber_9 rfl ?_
        refine lv_topi (fun v2 ev2 => ?_)
        obtain rfl : v2 = (v.toUInt32 >>> ((sh j).toUInt32 &&& Int32.toUInt32 31)).toInt32 := ev2.trans (rfl)
        refine lv_sipush (v := 255) (pc := 10) hx hb dX8_appendNumber_10 (by decide) ?_
        refine lv_iand (pc := 13) hx hb dX8_appendNumber_13 ?_
        refine lv_topi (fun v3 ev3 => ?_)
        obtain rfl : v3 = byx v j := ev3.trans (rfl)
        refine lv_istore_n (lv' := [(3, .int (byx v j)), (0, .ref h0), (1, .int v), (2, .int (sh j))]) (pc := 14) hx hb dX8_appendNumber_14 rfl hl (by decide) rfl (fun ls hl => ?_)
        refine lv_iload_n (pc := 15) hx hb dX8_appendNumber_15 rfl (lv_at hl 0 rfl) ?_
        refine lv_if_eq (tgt := 49) (pc := 16) hx hb dX8_appendNumber_16 rfl (fun c4 => ?_) (fun c4 => ?_)
        · have hz0 := c4
          refine lv_iinc (v := sh (j + 1)) (lv' := [(2, .int (sh (j + 1))), (3, .int (byx v j)), (0, .ref h0), (1, .int v)]) (pc := 49) hx hb dX8_appendNumber_49 hl (k := 3) rfl (sh_step j h4) (by decide) rfl (fun ls hl => ?_)
          refine lv_goto (tgt := 3) (pc := 52) hx hb dX8_appendNumber_52 rfl ?_
          exact ih1 (j + 1) k f (by omega) (by omega) (by rw [cnt_s0 hz0]; omega) _ _ _ hW (lv_sub hl [2, 3, 0] rfl)
        · have hz0 := c4
          have hlt : k < 400 := by have h8 := cnt_le v (j + 1) (by omega); rw [cnt_s1 hz0] at h8; omega
          refine lv_aload_n (pc := 19) hx hb dX8_appendNumber_19 rfl (lv_at hl 1 rfl) ?_
          refine r_get X hW 0 ciX8 1 rfl (by decide) m_37 rfl rfl dX8_appendNumber_20 ?_
          refine lv_sipush (v := 400) (pc := 23) hx hb dX8_appendNumber_23 (by decide) ?_
          refine lv_icmp_ge (tgt := 49) (pc := 26) hx hb dX8_appendNumber_26 rfl (fun c5 => absurd c5 (nI_ge hlt (by decide))) (fun c5 => ?_)
          refine lv_aload_n (pc := 29) hx hb dX8_appendNumber_29 rfl (lv_at hl 1 rfl) ?_
          refine r_get X hW 0 ciX8 0 rfl (by decide) m_36 rfl rfl dX8_appendNumber_30 ?_
          refine lv_aload_n (pc := 33) hx hb dX8_appendNumber_33 rfl (lv_at hl 1 rfl) ?_
          refine r_get X hW 0 ciX8 1 rfl (by decide) m_37 rfl rfl dX8_appendNumber_34 ?_
          refine lv_iload_n (pc := 37) hx hb dX8_appendNumber_37 rfl (lv_at hl 0 rfl) ?_
          obtain ⟨f6, ef6⟩ : ∃ f9 : Nat → Int32, upd f (nI k).toNatClampNeg (byx v j) = f9 := ⟨_, rfl⟩
          refine r_iast (ws' := [(h0, .inr (8, [.ref q, .int (nI k), .int pl])), (q, .inl (g.2.1 1, 400, .inl f6))]) X hW 1 rfl (vp_in_nI hlt (by decide)) ef6 rfl dX8_appendNumber_38 (fun H locs hW => ?_)
          refine lv_aload_n (pc := 39) hx hb dX8_appendNumber_39 rfl (lv_at hl 1 rfl) ?_
          refine lv_dup (pc := 40) hx hb dX8_appendNumber_40 rfl ?_
          refine r_get X hW 0 ciX8 1 rfl (by decide) m_37 rfl rfl dX8_appendNumber_41 ?_
          refine lv_iconst (v := 1) (pc := 44) hx hb dX8_appendNumber_44 (by decide) ?_
          refine lv_iadd (pc := 45) hx hb dX8_appendNumber_45 ?_
          refine lv_topi (fun v7 ev7 => ?_)
          obtain rfl : v7 = nI (k + 1) := ev7.trans (nI_1 k)
          refine r_put (ws' := [(h0, .inr (8, [.ref q, .int (nI (k + 1)), .int pl])), (q, .inl (g.2.1 1, 400, .inl f6))]) X hW 0 ciX8 1 rfl (by decide) m_37 rfl rfl rfl rfl (Nat.le_of_ble_eq_true rfl) rfl dX8_appendNumber_46 (fun H locs hW => ?_)
          refine lv_iinc (v := sh (j + 1)) (lv' := [(2, .int (sh (j + 1))), (3, .int (byx v j)), (0, .ref h0), (1, .int v)]) (pc := 49) hx hb dX8_appendNumber_49 hl (k := 3) rfl (sh_step j h4) (by decide) rfl (fun ls hl => ?_)
          refine lv_goto (tgt := 3) (pc := 52) hx hb dX8_appendNumber_52 rfl ?_
          exact ih1 (j + 1) (k + 1) f6 (by omega) (by omega) (by rw [cnt_s1 hz0]; omega) _ _ _ hW (lv_sub hl [2, 3, 0] rfl)
  exact loop1 5 0 n0 f0 (by decide) (by decide) rfl _ _ _ hW (lv_sub hl [1, 2, 0] rfl)

set_option maxHeartbeats 4000000 in
set_option maxRecDepth 100000 in
theorem C_X8_append (l : Launch) (g : GG) (h0 q : Nat) (p0 p1 p2 p3 p4 : Int32) : MetI l g yX8_append cX8_append 7 (some .int) 1 0 0 [.ref h0, .int p0, .int p1, .int p2, .int p3, .int p4] [(h0, .inr (8, [.ref q, .int 0, .int 0])), (q, .inl (g.2.1 1, 400, .inl (fun _ => 0)))] (fun r u => r = nI (((((0 + cnt p0 4) + cnt p1 4) + cnt p2 4) + cnt p3 4) + cnt p4 4) ∧ u = []) := by
  refine MetI.of (own := RX8) rfl (by decide) (Nat.le_of_ble_eq_true rfl) ?_
  intro p e s m below meth c A ls args Q hQ X hr hin hW hl
  have hx := X.1
  have hb := X.2.1
  have hl : lv_has ls 7 [(0, .ref h0), (1, .int p0), (2, .int p1), (3, .int p2), (4, .int p3), (5, .int p4)] := hl
  have k0 := cnt_4 p0
  have k1 := cnt_4 p1
  have k2 := cnt_4 p2
  have k3 := cnt_4 p3
  have k4 := cnt_4 p4
  refine lv_iload_n (pc := 0) hx hb dX8_append_0 rfl (lv_at hl 1 rfl) ?_
  refine c_Si (pc := 1) (As := [.int p0]) (rest := []) (wr := [(h0, .inr (8, [.ref q, .int 0, .int 0])), (q, .inl (g.2.1 1, 400, .inl (fun _ => 0)))]) X hW (C_X8_bytesIn l g p0) vX8_15 [] [0, 1] rfl rfl rfl rfl rfl rfl hl.1 rfl (Nat.le_of_ble_eq_true rfl) ⟨Nat.le_of_ble_eq_true rfl, Nat.le_of_ble_eq_true rfl⟩ ⟨Nat.le_of_ble_eq_true rfl, Nat.le_of_ble_eq_true rfl⟩ dX8_append_1 (fun r1 u9 H locs hq hW => ?_)
  obtain ⟨rfl, rfl⟩ := hq
  have hW : WD g A s _ _ [(h0, .inr (8, [.ref q, .int 0, .int 0])), (q, .inl (g.2.1 1, 400, .inl (fun _ => 0)))] := hW
  refine lv_iload_n (pc := 4) hx hb dX8_append_4 rfl (lv_at hl 2 rfl) ?_
  refine c_Si (pc := 5) (As := [.int p1]) (rest := [.int (nI (cnt p0 4))]) (wr := [(h0, .inr (8, [.ref q, .int 0, .int 0])), (q, .inl (g.2.1 1, 400, .inl (fun _ => 0)))]) X hW (C_X8_bytesIn l g p1) vX8_15 [] [0, 1] rfl rfl rfl rfl rfl rfl hl.1 rfl (Nat.le_of_ble_eq_true rfl) ⟨Nat.le_of_ble_eq_true rfl, Nat.le_of_ble_eq_true rfl⟩ ⟨Nat.le_of_ble_eq_true rfl, Nat.le_of_ble_eq_true rfl⟩ dX8_append_5 (fun r2 u9 H locs hq hW => ?_)
  obtain ⟨rfl, rfl⟩ := hq
  have hW : WD g A s _ _ [(h0, .inr (8, [.ref q, .int 0, .int 0])), (q, .inl (g.2.1 1, 400, .inl (fun _ => 0)))] := hW
  refine lv_iadd (pc := 8) hx hb dX8_append_8 ?_
  refine lv_topi (fun v3 ev3 => ?_)
  obtain rfl : v3 = nI (cnt p0 4 + cnt p1 4) := ev3.trans (nI_add _ _)
  refine lv_iload_n (pc := 9) hx hb dX8_append_9 rfl (lv_at hl 3 rfl) ?_
  refine c_Si (pc := 10) (As := [.int p2]) (rest := [.int (nI (cnt p0 4 + cnt p1 4))]) (wr := [(h0, .inr (8, [.ref q, .int 0, .int 0])), (q, .inl (g.2.1 1, 400, .inl (fun _ => 0)))]) X hW (C_X8_bytesIn l g p2) vX8_15 [] [0, 1] rfl rfl rfl rfl rfl rfl hl.1 rfl (Nat.le_of_ble_eq_true rfl) ⟨Nat.le_of_ble_eq_true rfl, Nat.le_of_ble_eq_true rfl⟩ ⟨Nat.le_of_ble_eq_true rfl, Nat.le_of_ble_eq_true rfl⟩ dX8_append_10 (fun r4 u9 H locs hq hW => ?_)
  obtain ⟨rfl, rfl⟩ := hq
  have hW : WD g A s _ _ [(h0, .inr (8, [.ref q, .int 0, .int 0])), (q, .inl (g.2.1 1, 400, .inl (fun _ => 0)))] := hW
  refine lv_iadd (pc := 13) hx hb dX8_append_13 ?_
  refine lv_topi (fun v5 ev5 => ?_)
  obtain rfl : v5 = nI (cnt p0 4 + cnt p1 4 + cnt p2 4) := ev5.trans (nI_add _ _)
  refine lv_iload (pc := 14) hx hb dX8_append_14 (lv_at hl 4 rfl) ?_
  refine c_Si (pc := 16) (As := [.int p3]) (rest := [.int (nI (cnt p0 4 + cnt p1 4 + cnt p2 4))]) (wr := [(h0, .inr (8, [.ref q, .int 0, .int 0])), (q, .inl (g.2.1 1, 400, .inl (fun _ => 0)))]) X hW (C_X8_bytesIn l g p3) vX8_15 [] [0, 1] rfl rfl rfl rfl rfl rfl hl.1 rfl (Nat.le_of_ble_eq_true rfl) ⟨Nat.le_of_ble_eq_true rfl, Nat.le_of_ble_eq_true rfl⟩ ⟨Nat.le_of_ble_eq_true rfl, Nat.le_of_ble_eq_true rfl⟩ dX8_append_16 (fun r6 u9 H locs hq hW => ?_)
  obtain ⟨rfl, rfl⟩ := hq
  have hW : WD g A s _ _ [(h0, .inr (8, [.ref q, .int 0, .int 0])), (q, .inl (g.2.1 1, 400, .inl (fun _ => 0)))] := hW
  refine lv_iadd (pc := 19) hx hb dX8_append_19 ?_
  refine lv_topi (fun v7 ev7 => ?_)
  obtain rfl : v7 = nI (cnt p0 4 + cnt p1 4 + cnt p2 4 + cnt p3 4) := ev7.trans (nI_add _ _)
  refine lv_iload (pc := 20) hx hb dX8_append_20 (lv_at hl 5 rfl) ?_
  refine c_Si (pc := 22) (As := [.int p4]) (rest := [.int (nI (cnt p0 4 + cnt p1 4 + cnt p2 4 + cnt p3 4))]) (wr := [(h0, .inr (8, [.ref q, .int 0, .int 0])), (q, .inl (g.2.1 1, 400, .inl (fun _ => 0)))]) X hW (C_X8_bytesIn l g p4) vX8_15 [] [0, 1] rfl rfl rfl rfl rfl rfl hl.1 rfl (Nat.le_of_ble_eq_true rfl) ⟨Nat.le_of_ble_eq_true rfl, Nat.le_of_ble_eq_true rfl⟩ ⟨Nat.le_of_ble_eq_true rfl, Nat.le_of_ble_eq_true rfl⟩ dX8_append_22 (fun r8 u9 H locs hq hW => ?_)
  obtain ⟨rfl, rfl⟩ := hq
  have hW : WD g A s _ _ [(h0, .inr (8, [.ref q, .int 0, .int 0])), (q, .inl (g.2.1 1, 400, .inl (fun _ => 0)))] := hW
  refine lv_iadd (pc := 25) hx hb dX8_append_25 ?_
  refine lv_topi (fun v9 ev9 => ?_)
  obtain rfl : v9 = nI (cnt p0 4 + cnt p1 4 + cnt p2 4 + cnt p3 4 + cnt p4 4) := ev9.trans (nI_add _ _)
  refine lv_istore (lv' := [(6, .int (nI (cnt p0 4 + cnt p1 4 + cnt p2 4 + cnt p3 4 + cnt p4 4))), (0, .ref h0), (1, .int p0), (2, .int p1), (3, .int p2), (4, .int p3), (5, .int p4)]) (pc := 26) hx hb dX8_append_26 hl (by decide) rfl (fun ls hl => ?_)
  refine lv_aload_n (pc := 28) hx hb dX8_append_28 rfl (lv_at hl 1 rfl) ?_
  refine r_get X hW 0 ciX8 1 rfl (by decide) m_37 rfl rfl dX8_append_29 ?_
  refine lv_iload (pc := 32) hx hb dX8_append_32 (lv_at hl 0 rfl) ?_
  refine lv_iadd (pc := 34) hx hb dX8_append_34 ?_
  refine lv_topi (fun v10 ev10 => ?_)
  obtain rfl : v10 = nI (cnt p0 4 + cnt p1 4 + cnt p2 4 + cnt p3 4 + cnt p4 4) := ev10.trans (Int32.zero_add _)
  refine lv_sipush (v := 400) (pc := 35) hx hb dX8_append_35 (by decide) ?_
  refine lv_icmp_le (tgt := 43) (pc := 38) hx hb dX8_append_38 rfl (fun c11 => ?_) (fun c11 => absurd (nI_le (show _ ≤ 400 by omega) (by decide)) c11)
  refine lv_aload_n (pc := 43) hx hb dX8_append_43 rfl (lv_at hl 1 rfl) ?_
  refine lv_iload_n (pc := 44) hx hb dX8_append_44 rfl (lv_at hl 2 rfl) ?_
  refine c_Vv (pc := 45) (As := [.int p0]) (rest := []) (wr := []) X hW 0 ciX8 rfl (C_X8_appendNumber l g h0 q (fun _ => 0) 0 0 p0 (by omega)) vX8_23 [0, 1] [] rfl rfl rfl rfl rfl rfl hl.1 rfl (Nat.le_of_ble_eq_true rfl) ⟨Nat.le_of_ble_eq_true rfl, Nat.le_of_ble_eq_true rfl⟩ ⟨Nat.le_of_ble_eq_true rfl, Nat.le_of_ble_eq_true rfl⟩ dX8_append_45 (fun u9 H locs hq hW => ?_)
  obtain ⟨f12, rfl⟩ := hq
  have hW : WD g A s _ _ [(h0, .inr (8, [.ref q, .int (nI (0 + cnt p0 4)), .int 0])), (q, .inl (g.2.1 1, 400, .inl f12))] := hW
  refine lv_aload_n (pc := 48) hx hb dX8_append_48 rfl (lv_at hl 1 rfl) ?_
  refine lv_iload_n (pc := 49) hx hb dX8_append_49 rfl (lv_at hl 3 rfl) ?_
  refine c_Vv (pc := 50) (As := [.int p1]) (rest := []) (wr := []) X hW 0 ciX8 rfl (C_X8_appendNumber l g h0 q f12 (0 + cnt p0 4) 0 p1 (by omega)) vX8_23 [0, 1] [] rfl rfl rfl rfl rfl rfl hl.1 rfl (Nat.le_of_ble_eq_true rfl) ⟨Nat.le_of_ble_eq_true rfl, Nat.le_of_ble_eq_true rfl⟩ ⟨Nat.le_of_ble_eq_true rfl, Nat.le_of_ble_eq_true rfl⟩ dX8_append_50 (fun u9 H locs hq hW => ?_)
  obtain ⟨f13, rfl⟩ := hq
  have hW : WD g A s _ _ [(h0, .inr (8, [.ref q, .int (nI ((0 + cnt p0 4) + cnt p1 4)), .int 0])), (q, .inl (g.2.1 1, 400, .inl f13))] := hW
  refine lv_aload_n (pc := 53) hx hb dX8_append_53 rfl (lv_at hl 1 rfl) ?_
  refine lv_iload_n (pc := 54) hx hb dX8_append_54 rfl (lv_at hl 4 rfl) ?_
  refine c_Vv (pc := 55) (As := [.int p2]) (rest := []) (wr := []) X hW 0 ciX8 rfl (C_X8_appendNumber l g h0 q f13 ((0 + cnt p0 4) + cnt p1 4) 0 p2 (by omega)) vX8_23 [0, 1] [] rfl rfl rfl rfl rfl rfl hl.1 rfl (Nat.le_of_ble_eq_true rfl) ⟨Nat.le_of_ble_eq_true rfl, Nat.le_of_ble_eq_true rfl⟩ ⟨Nat.le_of_ble_eq_true rfl, Nat.le_of_ble_eq_true rfl⟩ dX8_append_55 (fun u9 H locs hq hW => ?_)
  obtain ⟨f14, rfl⟩ := hq
  have hW : WD g A s _ _ [(h0, .inr (8, [.ref q, .int (nI (((0 + cnt p0 4) + cnt p1 4) + cnt p2 4)), .int 0])), (q, .inl (g.2.1 1, 400, .inl f14))] := hW
  refine lv_aload_n (pc := 58) hx hb dX8_append_58 rfl (lv_at hl 1 rfl) ?_
  refine lv_iload (pc := 59) hx hb dX8_append_59 (lv_at hl 5 rfl) ?_
  refine c_Vv (pc := 61) (As := [.int p3]) (rest := []) (wr := []) X hW 0 ciX8 rfl (C_X8_appendNumber l g h0 q f14 (((0 + cnt p0 4) + cnt p1 4) + cnt p2 4) 0 p3 (by omega)) vX8_23 [0, 1] [] rfl rfl rfl rfl rfl rfl hl.1 rfl (Nat.le_of_ble_eq_true rfl) ⟨Nat.le_of_ble_eq_true rfl, Nat.le_of_ble_eq_true rfl⟩ ⟨Nat.le_of_ble_eq_true rfl, Nat.le_of_ble_eq_true rfl⟩ dX8_append_61 (fun u9 H locs hq hW => ?_)
  obtain ⟨f15, rfl⟩ := hq
  have hW : WD g A s _ _ [(h0, .inr (8, [.ref q, .int (nI ((((0 + cnt p0 4) + cnt p1 4) + cnt p2 4) + cnt p3 4)), .int 0])), (q, .inl (g.2.1 1, 400, .inl f15))] := hW
  refine lv_aload_n (pc := 64) hx hb dX8_append_64 rfl (lv_at hl 1 rfl) ?_
  refine lv_iload (pc := 65) hx hb dX8_append_65 (lv_at hl 6 rfl) ?_
  refine c_Vv (pc := 67) (As := [.int p4]) (rest := []) (wr := []) X hW 0 ciX8 rfl (C_X8_appendNumber l g h0 q f15 ((((0 + cnt p0 4) + cnt p1 4) + cnt p2 4) + cnt p3 4) 0 p4 (by omega)) vX8_23 [0, 1] [] rfl rfl rfl rfl rfl rfl hl.1 rfl (Nat.le_of_ble_eq_true rfl) ⟨Nat.le_of_ble_eq_true rfl, Nat.le_of_ble_eq_true rfl⟩ ⟨Nat.le_of_ble_eq_true rfl, Nat.le_of_ble_eq_true rfl⟩ dX8_append_67 (fun u9 H locs hq hW => ?_)
  obtain ⟨f16, rfl⟩ := hq
  have hW : WD g A s _ _ [(h0, .inr (8, [.ref q, .int (nI (((((0 + cnt p0 4) + cnt p1 4) + cnt p2 4) + cnt p3 4) + cnt p4 4)), .int 0])), (q, .inl (g.2.1 1, 400, .inl f16))] := hW
  refine lv_aload_n (pc := 70) hx hb dX8_append_70 rfl (lv_at hl 1 rfl) ?_
  refine r_get X hW 0 ciX8 1 rfl (by decide) m_37 rfl rfl dX8_append_71 ?_
  exact e_i X hQ hr hW (u := []) [] rfl rfl (⟨rfl, rfl⟩) ⟨Nat.le_of_ble_eq_true rfl, Nat.le_of_ble_eq_true rfl⟩ dX8_append_74

set_option maxHeartbeats 4000000 in
set_option maxRecDepth 100000 in
theorem C_X11_feed (l : Launch) (g : GG) (h0 a0 a1 a2 a3 a4 a5 a6 a7 a8 a9 a10 q : Nat) (p0 p1 p2 p3 p4 : Int32) : MetI l g yX11_feed cX11_feed 6 (some .int) 2 0 0 [.ref h0, .int p0, .int p1, .int p2, .int p3, .int p4] [(h0, .inr (11, [.ref a0, .ref a1, .ref a2, .ref a3, .ref a4, .ref a5, .ref a6, .ref a7, .ref a8, .ref a9, .ref a10, .int 0, .int 0, .int 0])), (a0, .inr (8, [.ref q, .int 0, .int 0])), (q, .inl (g.2.1 1, 400, .inl (fun _ => 0)))] (fun r u => r = nI (((((0 + cnt p0 4) + cnt p1 4) + cnt p2 4) + cnt p3 4) + cnt p4 4) ∧ u = []) := by
  refine MetI.of (own := RX11) rfl (by decide) (Nat.le_of_ble_eq_true rfl) ?_
  intro p e s m below meth c A ls args Q hQ X hr hin hW hl
  have hx := X.1
  have hb := X.2.1
  have hl : lv_has ls 6 [(0, .ref h0), (1, .int p0), (2, .int p1), (3, .int p2), (4, .int p3), (5, .int p4)] := hl
  refine lv_aload_n (pc := 0) hx hb dX11_feed_0 rfl (lv_at hl 0 rfl) ?_
  refine r_get X hW 0 ciX11 0 rfl (by decide) m_353 rfl rfl dX11_feed_1 ?_
  refine lv_iload_n (pc := 4) hx hb dX11_feed_4 rfl (lv_at hl 1 rfl) ?_
  refine lv_iload_n (pc := 5) hx hb dX11_feed_5 rfl (lv_at hl 2 rfl) ?_
  refine lv_iload_n (pc := 6) hx hb dX11_feed_6 rfl (lv_at hl 3 rfl) ?_
  refine lv_iload (pc := 7) hx hb dX11_feed_7 (lv_at hl 4 rfl) ?_
  refine lv_iload (pc := 9) hx hb dX11_feed_9 (lv_at hl 5 rfl) ?_
  refine c_Vi (pc := 11) (As := [.int p0, .int p1, .int p2, .int p3, .int p4]) (rest := []) (wr := [(h0, .inr (11, [.ref a0, .ref a1, .ref a2, .ref a3, .ref a4, .ref a5, .ref a6, .ref a7, .ref a8, .ref a9, .ref a10, .int 0, .int 0, .int 0]))]) X hW 1 ciX8 rfl (C_X8_append l g a0 q p0 p1 p2 p3 p4) vX11_82 [1, 2] [0] rfl rfl rfl rfl rfl rfl hl.1 rfl (Nat.le_of_ble_eq_true rfl) ⟨Nat.le_of_ble_eq_true rfl, Nat.le_of_ble_eq_true rfl⟩ ⟨Nat.le_of_ble_eq_true rfl, Nat.le_of_ble_eq_true rfl⟩ dX11_feed_11 (fun r1 u9 H locs hq hW => ?_)
  obtain ⟨rfl, rfl⟩ := hq
  have hW : WD g A s _ _ [(h0, .inr (11, [.ref a0, .ref a1, .ref a2, .ref a3, .ref a4, .ref a5, .ref a6, .ref a7, .ref a8, .ref a9, .ref a10, .int 0, .int 0, .int 0]))] := hW
  exact e_i X hQ hr hW (u := []) [] rfl rfl (⟨rfl, rfl⟩) ⟨Nat.le_of_ble_eq_true rfl, Nat.le_of_ble_eq_true rfl⟩ dX11_feed_14

set_option maxHeartbeats 4000000 in
set_option maxRecDepth 100000 in
theorem C_X8_cut (l : Launch) (g : GG) (h0 q : Nat) (p0 : Int32) : MetI l g yX8_cut cX8_cut 2 (some .boolean) 0 0 0 [.ref h0, .int p0] [(h0, .inr (8, [.ref q, .int 0, .int 0])), (q, .inl (g.2.1 1, 400, .inl (fun _ => 0)))] (fun r u => r = ev p0 ∧ u = []) := by
  refine MetI.of (own := RX8) rfl (by decide) (Nat.le_of_ble_eq_true rfl) ?_
  intro p e s m below meth c A ls args Q hQ X hr hin hW hl
  have hx := X.1
  have hb := X.2.1
  have hl : lv_has ls 2 [(0, .ref h0), (1, .int p0)] := hl
  refine lv_iload_n (pc := 0) hx hb dX8_cut_0 rfl (lv_at hl 1 rfl) ?_
  refine lv_if_lt (tgt := 12) (pc := 1) hx hb dX8_cut_1 rfl (fun c1 => ?_) (fun c1 => ?_)
  · refine lv_iconst (v := 0) (pc := 12) hx hb dX8_cut_12 (by decide) ?_
    exact e_z X hQ hr hW (u := []) rfl [] rfl rfl (⟨(by first | exact ev_0 c1 | exact ev_2 c1), rfl⟩) ⟨Nat.le_of_ble_eq_true rfl, Nat.le_of_ble_eq_true rfl⟩ dX8_cut_13
  · have hg := c1
    refine lv_iload_n (pc := 4) hx hb dX8_cut_4 rfl (lv_at hl 1 rfl) ?_
    refine lv_aload_n (pc := 5) hx hb dX8_cut_5 rfl (lv_at hl 0 rfl) ?_
    refine r_get X hW 0 ciX8 1 rfl (by decide) m_37 rfl rfl dX8_cut_6 ?_
    refine lv_icmp_le (tgt := 14) (pc := 9) hx hb dX8_cut_9 rfl (fun c2 => ?_) (fun c2 => ?_)
    · refine lv_aload_n (pc := 14) hx hb dX8_cut_14 rfl (lv_at hl 0 rfl) ?_
      refine lv_iload_n (pc := 15) hx hb dX8_cut_15 rfl (lv_at hl 1 rfl) ?_
      refine r_put (ws' := [(h0, .inr (8, [.ref q, .int p0, .int 0])), (q, .inl (g.2.1 1, 400, .inl (fun _ => 0)))]) X hW 0 ciX8 1 rfl (by decide) m_37 rfl rfl rfl rfl (Nat.le_of_ble_eq_true rfl) rfl dX8_cut_16 (fun H locs hW => ?_)
      refine lv_iconst (v := 1) (pc := 19) hx hb dX8_cut_19 (by decide) ?_
      exact e_z X hQ hr hW (u := []) rfl [] rfl rfl (⟨ev_1 hg c2, rfl⟩) ⟨Nat.le_of_ble_eq_true rfl, Nat.le_of_ble_eq_true rfl⟩ dX8_cut_20
    · refine lv_iconst (v := 0) (pc := 12) hx hb dX8_cut_12 (by decide) ?_
      exact e_z X hQ hr hW (u := []) rfl [] rfl rfl (⟨(by first | exact ev_0 c2 | exact ev_2 c2), rfl⟩) ⟨Nat.le_of_ble_eq_true rfl, Nat.le_of_ble_eq_true rfl⟩ dX8_cut_13

set_option maxHeartbeats 4000000 in
set_option maxRecDepth 100000 in
theorem C_X11_end (l : Launch) (g : GG) (h0 a0 a1 a2 a3 a4 a5 a6 a7 a8 a9 a10 q : Nat) (p0 : Int32) : MetI l g yX11_end cX11_end 2 (some .boolean) 1 0 0 [.ref h0, .int p0] [(h0, .inr (11, [.ref a0, .ref a1, .ref a2, .ref a3, .ref a4, .ref a5, .ref a6, .ref a7, .ref a8, .ref a9, .ref a10, .int 0, .int 0, .int 0])), (a0, .inr (8, [.ref q, .int 0, .int 0])), (q, .inl (g.2.1 1, 400, .inl (fun _ => 0)))] (fun r u => r = ev p0 ∧ u = []) := by
  refine MetI.of (own := RX11) rfl (by decide) (Nat.le_of_ble_eq_true rfl) ?_
  intro p e s m below meth c A ls args Q hQ X hr hin hW hl
  have hx := X.1
  have hb := X.2.1
  have hl : lv_has ls 2 [(0, .ref h0), (1, .int p0)] := hl
  refine lv_aload_n (pc := 0) hx hb dX11_end_0 rfl (lv_at hl 0 rfl) ?_
  refine r_get X hW 0 ciX11 0 rfl (by decide) m_353 rfl rfl dX11_end_1 ?_
  refine lv_iload_n (pc := 4) hx hb dX11_end_4 rfl (lv_at hl 1 rfl) ?_
  refine c_Vi (pc := 5) (As := [.int p0]) (rest := []) (wr := [(h0, .inr (11, [.ref a0, .ref a1, .ref a2, .ref a3, .ref a4, .ref a5, .ref a6, .ref a7, .ref a8, .ref a9, .ref a10, .int 0, .int 0, .int 0]))]) X hW 1 ciX8 rfl (C_X8_cut l g a0 q p0) vX11_86 [1, 2] [0] rfl rfl rfl rfl rfl rfl hl.1 rfl (Nat.le_of_ble_eq_true rfl) ⟨Nat.le_of_ble_eq_true rfl, Nat.le_of_ble_eq_true rfl⟩ ⟨Nat.le_of_ble_eq_true rfl, Nat.le_of_ble_eq_true rfl⟩ dX11_end_5 (fun r1 u9 H locs hq hW => ?_)
  obtain ⟨rfl, rfl⟩ := hq
  have hW : WD g A s _ _ [(h0, .inr (11, [.ref a0, .ref a1, .ref a2, .ref a3, .ref a4, .ref a5, .ref a6, .ref a7, .ref a8, .ref a9, .ref a10, .int 0, .int 0, .int 0]))] := hW
  exact e_z X hQ hr hW (u := []) (ev_z _) [] rfl rfl (⟨rfl, rfl⟩) ⟨Nat.le_of_ble_eq_true rfl, Nat.le_of_ble_eq_true rfl⟩ dX11_end_8

set_option maxHeartbeats 4000000 in
set_option maxRecDepth 100000 in
theorem C_X12_end (l : Launch) (g : GG) (h0 b1 b6 b7 b8 b9 b10 b11 b12 b13 b14 b15 b16 b17 b21 b22 b23 b24 b25 b26 b28 b29 b30 b31 b32 b33 b34 b35 b36 b46 b47 b48 b49 b50 b51 b52 b53 b54 b55 b56 b57 b58 b59 b60 b61 b62 b63 : Nat) (p0 : Int32) : MetI l g yX12_end cX12_end 2 (some .boolean) 0 0 0 [.ref h0, .int p0] [(h0, .inr (12, [.int 0, .ref b1, .int 0, .int 0, .int 0, .int 0, .ref b6, .ref b7, .ref b8, .ref b9, .ref b10, .ref b11, .ref b12, .ref b13, .ref b14, .ref b15, .ref b16, .ref b17, .int 0, .int (-1), .int (-1), .ref b21, .ref b22, .ref b23, .ref b24, .ref b25, .ref b26, .int 0, .ref b28, .ref b29, .ref b30, .ref b31, .ref b32, .ref b33, .ref b34, .ref b35, .ref b36, .int 0, .int 0, .int 0, .int 0, .int 0, .int 0, .int 0, .int 0, .int 0, .ref b46, .ref b47, .ref b48, .ref b49, .ref b50, .ref b51, .ref b52, .ref b53, .ref b54, .ref b55, .ref b56, .ref b57, .ref b58, .ref b59, .ref b60, .ref b61, .ref b62, .ref b63]))] (fun r u => r = ev p0 ∧ u = []) := by
  refine MetI.of (own := RX12) rfl (by decide) (Nat.le_of_ble_eq_true rfl) ?_
  intro p e s m below meth c A ls args Q hQ X hr hin hW hl
  have hx := X.1
  have hb := X.2.1
  have hl : lv_has ls 2 [(0, .ref h0), (1, .int p0)] := hl
  refine lv_aload_n (pc := 0) hx hb dX12_end_0 rfl (lv_at hl 0 rfl) ?_
  refine lv_iconst (v := 0) (pc := 1) hx hb dX12_end_1 (by decide) ?_
  refine r_put (ws' := [(h0, .inr (12, [.int 0, .ref b1, .int 0, .int 0, .int 0, .int 0, .ref b6, .ref b7, .ref b8, .ref b9, .ref b10, .ref b11, .ref b12, .ref b13, .ref b14, .ref b15, .ref b16, .ref b17, .int 0, .int (-1), .int (-1), .ref b21, .ref b22, .ref b23, .ref b24, .ref b25, .ref b26, .int 0, .ref b28, .ref b29, .ref b30, .ref b31, .ref b32, .ref b33, .ref b34, .ref b35, .ref b36, .int 0, .int 0, .int 0, .int 0, .int 0, .int 0, .int 0, .int 0, .int 0, .ref b46, .ref b47, .ref b48, .ref b49, .ref b50, .ref b51, .ref b52, .ref b53, .ref b54, .ref b55, .ref b56, .ref b57, .ref b58, .ref b59, .ref b60, .ref b61, .ref b62, .ref b63]))]) X hW 0 ciX12 0 rfl (by decide) m_1231 rfl rfl rfl rfl (Nat.le_of_ble_eq_true rfl) rfl dX12_end_2 (fun H locs hW => ?_)
  refine lv_iload_n (pc := 5) hx hb dX12_end_5 rfl (lv_at hl 1 rfl) ?_
  refine lv_if_lt (tgt := 17) (pc := 6) hx hb dX12_end_6 rfl (fun c1 => ?_) (fun c1 => ?_)
  · refine lv_iconst (v := 0) (pc := 17) hx hb dX12_end_17 (by decide) ?_
    exact e_z X hQ hr hW (u := []) rfl [] rfl rfl (⟨(by first | exact ev_0 c1 | exact ev_2 c1), rfl⟩) ⟨Nat.le_of_ble_eq_true rfl, Nat.le_of_ble_eq_true rfl⟩ dX12_end_18
  · have hg := c1
    refine lv_iload_n (pc := 9) hx hb dX12_end_9 rfl (lv_at hl 1 rfl) ?_
    refine lv_aload_n (pc := 10) hx hb dX12_end_10 rfl (lv_at hl 0 rfl) ?_
    refine r_get X hW 0 ciX12 2 rfl (by decide) m_1233 rfl rfl dX12_end_11 ?_
    refine lv_icmp_le (tgt := 19) (pc := 14) hx hb dX12_end_14 rfl (fun c2 => ?_) (fun c2 => ?_)
    · refine lv_aload_n (pc := 19) hx hb dX12_end_19 rfl (lv_at hl 0 rfl) ?_
      refine lv_iload_n (pc := 20) hx hb dX12_end_20 rfl (lv_at hl 1 rfl) ?_
      refine r_put (ws' := [(h0, .inr (12, [.int 0, .ref b1, .int p0, .int 0, .int 0, .int 0, .ref b6, .ref b7, .ref b8, .ref b9, .ref b10, .ref b11, .ref b12, .ref b13, .ref b14, .ref b15, .ref b16, .ref b17, .int 0, .int (-1), .int (-1), .ref b21, .ref b22, .ref b23, .ref b24, .ref b25, .ref b26, .int 0, .ref b28, .ref b29, .ref b30, .ref b31, .ref b32, .ref b33, .ref b34, .ref b35, .ref b36, .int 0, .int 0, .int 0, .int 0, .int 0, .int 0, .int 0, .int 0, .int 0, .ref b46, .ref b47, .ref b48, .ref b49, .ref b50, .ref b51, .ref b52, .ref b53, .ref b54, .ref b55, .ref b56, .ref b57, .ref b58, .ref b59, .ref b60, .ref b61, .ref b62, .ref b63]))]) X hW 0 ciX12 2 rfl (by decide) m_1233 rfl rfl rfl rfl (Nat.le_of_ble_eq_true rfl) rfl dX12_end_21 (fun H locs hW => ?_)
      refine lv_iconst (v := 1) (pc := 24) hx hb dX12_end_24 (by decide) ?_
      exact e_z X hQ hr hW (u := []) rfl [] rfl rfl (⟨ev_1 hg c2, rfl⟩) ⟨Nat.le_of_ble_eq_true rfl, Nat.le_of_ble_eq_true rfl⟩ dX12_end_25
    · refine lv_iconst (v := 0) (pc := 17) hx hb dX12_end_17 (by decide) ?_
      exact e_z X hQ hr hW (u := []) rfl [] rfl rfl (⟨(by first | exact ev_0 c2 | exact ev_2 c2), rfl⟩) ⟨Nat.le_of_ble_eq_true rfl, Nat.le_of_ble_eq_true rfl⟩ dX12_end_18

set_option maxHeartbeats 4000000 in
set_option maxRecDepth 100000 in
theorem C_X12_put (l : Launch) (g : GG) (h0 b1 b6 b7 b8 b9 b10 b11 b12 b13 b14 b15 b16 b17 b21 b22 b23 b24 b25 b26 b28 b29 b30 b31 b32 b33 b34 b35 b36 b46 b47 b48 b49 b50 b51 b52 b53 b54 b55 b56 b57 b58 b59 b60 b61 b62 b63 : Nat) (f0 : Nat → Int32) (n0 : Nat) (v : Int32) (hn : n0 + cnt v 4 ≤ 400) : MetV l g yX12_put cX12_put 3 none 0 0 0 [.ref h0, .int v] [(h0, .inr (12, [.int 0, .ref b1, .int (nI n0), .int 0, .int 0, .int 0, .ref b6, .ref b7, .ref b8, .ref b9, .ref b10, .ref b11, .ref b12, .ref b13, .ref b14, .ref b15, .ref b16, .ref b17, .int 0, .int (-1), .int (-1), .ref b21, .ref b22, .ref b23, .ref b24, .ref b25, .ref b26, .int 0, .ref b28, .ref b29, .ref b30, .ref b31, .ref b32, .ref b33, .ref b34, .ref b35, .ref b36, .int 0, .int 0, .int 0, .int 0, .int 0, .int 0, .int 0, .int 0, .int 0, .ref b46, .ref b47, .ref b48, .ref b49, .ref b50, .ref b51, .ref b52, .ref b53, .ref b54, .ref b55, .ref b56, .ref b57, .ref b58, .ref b59, .ref b60, .ref b61, .ref b62, .ref b63])), (b1, .inl (g.2.1 0, 400, .inl f0))] (fun u => ∃ f : Nat → Int32, u = [(h0, .inr (12, [.int 0, .ref b1, .int (nI (n0 + cnt v 4)), .int 0, .int 0, .int 0, .ref b6, .ref b7, .ref b8, .ref b9, .ref b10, .ref b11, .ref b12, .ref b13, .ref b14, .ref b15, .ref b16, .ref b17, .int 0, .int (-1), .int (-1), .ref b21, .ref b22, .ref b23, .ref b24, .ref b25, .ref b26, .int 0, .ref b28, .ref b29, .ref b30, .ref b31, .ref b32, .ref b33, .ref b34, .ref b35, .ref b36, .int 0, .int 0, .int 0, .int 0, .int 0, .int 0, .int 0, .int 0, .int 0, .ref b46, .ref b47, .ref b48, .ref b49, .ref b50, .ref b51, .ref b52, .ref b53, .ref b54, .ref b55, .ref b56, .ref b57, .ref b58, .ref b59, .ref b60, .ref b61, .ref b62, .ref b63])), (b1, .inl (g.2.1 0, 400, .inl f))]) := by
  refine MetV.of (own := RX12) rfl (by decide) (Nat.le_of_ble_eq_true rfl) ?_
  intro p e s m below meth c A ls args Q hQ X hr hin hW hl
  have hx := X.1
  have hb := X.2.1
  have hl : lv_has ls 3 [(0, .ref h0), (1, .int v)] := hl
  refine lv_bipush (v := 24) (pc := 0) hx hb dX12_put_0 (by decide) ?_
  refine lv_istore_n (lv' := [(2, .int 24), (0, .ref h0), (1, .int v)]) (pc := 2) hx hb dX12_put_2 rfl hl (by decide) rfl (fun ls hl => ?_)
  have loop1 : ∀ (n : Nat) (j : Nat) (k : Nat) (f : Nat → Int32), (5 ≤ n + j) → (j < 5) → (k = n0 + cnt v j) → ∀ (H : Heap) (locs : List Loc) (ls : Array Slot), WD g A s H locs [(h0, .inr (12, [.int 0, .ref b1, .int (nI k), .int 0, .int 0, .int 0, .ref b6, .ref b7, .ref b8, .ref b9, .ref b10, .ref b11, .ref b12, .ref b13, .ref b14, .ref b15, .ref b16, .ref b17, .int 0, .int (-1), .int (-1), .ref b21, .ref b22, .ref b23, .ref b24, .ref b25, .ref b26, .int 0, .ref b28, .ref b29, .ref b30, .ref b31, .ref b32, .ref b33, .ref b34, .ref b35, .ref b36, .int 0, .int 0, .int 0, .int 0, .int 0, .int 0, .int 0, .int 0, .int 0, .ref b46, .ref b47, .ref b48, .ref b49, .ref b50, .ref b51, .ref b52, .ref b53, .ref b54, .ref b55, .ref b56, .ref b57, .ref b58, .ref b59, .ref b60, .ref b61, .ref b62, .ref b63])), (b1, .inl (g.2.1 0, 400, .inl f))] → lv_has ls 3 [(0, .ref h0), (1, .int v), (2, .int (sh j))] → W p l e (RM 0 0 0) s m args below meth c H locs 0 0 Q (F0 m 3 ls []) := by
    intro n
    induction n with
    | zero =>
      intro j k f hm hj hk
      exact absurd hm (by omega)
    | succ n ih1 =>
      intro j k f hm hj hk H locs ls hW hl
      refine lv_iload_n (pc := 3) hx hb dX12_put_3 rfl (lv_at hl 2 rfl) ?_
      refine lv_if_lt (tgt := 49) (pc := 4) hx hb dX12_put_4 rfl (fun c1 => ?_) (fun c1 => ?_)
      · have hex := c1
        exact e_v X hQ hr hW (u := [(h0, .inr (12, [.int 0, .ref b1, .int (nI k), .int 0, .int 0, .int 0, .ref b6, .ref b7, .ref b8, .ref b9, .ref b10, .ref b11, .ref b12, .ref b13, .ref b14, .ref b15, .ref b16, .ref b17, .int 0, .int (-1), .int (-1), .ref b21, .ref b22, .ref b23, .ref b24, .ref b25, .ref b26, .int 0, .ref b28, .ref b29, .ref b30, .ref b31, .ref b32, .ref b33, .ref b34, .ref b35, .ref b36, .int 0, .int 0, .int 0, .int 0, .int 0, .int 0, .int 0, .int 0, .int 0, .ref b46, .ref b47, .ref b48, .ref b49, .ref b50, .ref b51, .ref b52, .ref b53, .ref b54, .ref b55, .ref b56, .ref b57, .ref b58, .ref b59, .ref b60, .ref b61, .ref b62, .ref b63])), (b1, .inl (g.2.1 0, 400, .inl f))]) [0, 1] rfl rfl (⟨f, by rw [hk, (sh_neg j hj).mp hex]⟩) ⟨Nat.le_of_ble_eq_true rfl, Nat.le_of_ble_eq_true rfl⟩ dX12_put_49
      · have h4 : j < 4 := by have h9 := (not_congr (sh_neg j hj)).mp c1; omega
        refine lv_iload_n (pc := 7) hx hb dX12_put_7 rfl (lv_at hl 1 rfl) ?_
        refine lv_iload_n (pc := 8) hx hb dX12_put_8 rfl (lv_at hl 2 rfl) ?_
        refine lv_ishr (pc := 9) hx hb dX12_put_9 ?_
        refine lv_topi (fun v2 ev2 => ?_)
        obtain rfl : v2 = v >>> (sh j &&& 31) := ev2.trans (rfl)
        refine lv_sipush (v := 255) (pc := 10) hx hb dX12_put_10 (by decide) ?_
        refine lv_iand (pc := 13) hx hb dX12_put_13 ?_
        refine lv_topi (fun v3 ev3 => ?_)
        obtain rfl : v3 = byx v j := ev3.trans (byz_eq v j h4)
        refine lv_if_ne (tgt := 20) (pc := 14) hx hb dX12_put_14 rfl (fun c4 => ?_) (fun c4 => ?_)
        · have hz0 := c4
          have hlt : k < 400 := by have h8 := cnt_le v (j + 1) (by omega); rw [cnt_s1 hz0] at h8; omega
          refine lv_aload_n (pc := 20) hx hb dX12_put_20 rfl (lv_at hl 0 rfl) ?_
          refine r_get X hW 0 ciX12 1 rfl (by decide) m_1232 rfl rfl dX12_put_21 ?_
          refine lv_aload_n (pc := 24) hx hb dX12_put_24 rfl (lv_at hl 0 rfl) ?_
          refine r_get X hW 0 ciX12 2 rfl (by decide) m_1233 rfl rfl dX12_put_25 ?_
          refine lv_iload_n (pc := 28) hx hb dX12_put_28 rfl (lv_at hl 1 rfl) ?_
          refine lv_iload_n (pc := 29) hx hb dX12_put_29 rfl (lv_at hl 2 rfl) ?_
          refine lv_ishr (pc := 30) hx hb dX12_put_30 ?_
          refine lv_i2b (pc := 31) hx hb dX12_put_31 rfl ?_
          obtain ⟨f5, ef5⟩ : ∃ f9 : Nat → Int32, upd f (nI k).toNatClampNeg (vp_nar .byte ((v >>> ((sh j) &&& 31)).toInt8.toInt32)) = f9 := ⟨_, rfl⟩
          refine r_bast (ws' := [(h0, .inr (12, [.int 0, .ref b1, .int (nI k), .int 0, .int 0, .int 0, .ref b6, .ref b7, .ref b8, .ref b9, .ref b10, .ref b11, .ref b12, .ref b13, .ref b14, .ref b15, .ref b16, .ref b17, .int 0, .int (-1), .int (-1), .ref b21, .ref b22, .ref b23, .ref b24, .ref b25, .ref b26, .int 0, .ref b28, .ref b29, .ref b30, .ref b31, .ref b32, .ref b33, .ref b34, .ref b35, .ref b36, .int 0, .int 0, .int 0, .int 0, .int 0, .int 0, .int 0, .int 0, .int 0, .ref b46, .ref b47, .ref b48, .ref b49, .ref b50, .ref b51, .ref b52, .ref b53, .ref b54, .ref b55, .ref b56, .ref b57, .ref b58, .ref b59, .ref b60, .ref b61, .ref b62, .ref b63])), (b1, .inl (g.2.1 0, 400, .inl f5))]) X hW 1 rfl (vp_in_nI hlt (by decide)) ef5 rfl dX12_put_32 (fun H locs hW => ?_)
          refine lv_aload_n (pc := 33) hx hb dX12_put_33 rfl (lv_at hl 0 rfl) ?_
          refine lv_dup (pc := 34) hx hb dX12_put_34 rfl ?_
          refine r_get X hW 0 ciX12 2 rfl (by decide) m_1233 rfl rfl dX12_put_35 ?_
          refine lv_iconst (v := 1) (pc := 38) hx hb dX12_put_38 (by decide) ?_
          refine lv_iadd (pc := 39) hx hb dX12_put_39 ?_
          refine lv_topi (fun v6 ev6 => ?_)
          obtain rfl : v6 = nI (k + 1) := ev6.trans (nI_1 k)
          refine r_put (ws' := [(h0, .inr (12, [.int 0, .ref b1, .int (nI (k + 1)), .int 0, .int 0, .int 0, .ref b6, .ref b7, .ref b8, .ref b9, .ref b10, .ref b11, .ref b12, .ref b13, .ref b14, .ref b15, .ref b16, .ref b17, .int 0, .int (-1), .int (-1), .ref b21, .ref b22, .ref b23, .ref b24, .ref b25, .ref b26, .int 0, .ref b28, .ref b29, .ref b30, .ref b31, .ref b32, .ref b33, .ref b34, .ref b35, .ref b36, .int 0, .int 0, .int 0, .int 0, .int 0, .int 0, .int 0, .int 0, .int 0, .ref b46, .ref b47, .ref b48, .ref b49, .ref b50, .ref b51, .ref b52, .ref b53, .ref b54, .ref b55, .ref b56, .ref b57, .ref b58, .ref b59, .ref b60, .ref b61, .ref b62, .ref b63])), (b1, .inl (g.2.1 0, 400, .inl f5))]) X hW 0 ciX12 2 rfl (by decide) m_1233 rfl rfl rfl rfl (Nat.le_of_ble_eq_true rfl) rfl dX12_put_40 (fun H locs hW => ?_)
          refine lv_iinc (v := sh (j + 1)) (lv' := [(2, .int (sh (j + 1))), (0, .ref h0), (1, .int v)]) (pc := 43) hx hb dX12_put_43 hl (k := 2) rfl (sh_step j h4) (by decide) rfl (fun ls hl => ?_)
          refine lv_goto (tgt := 3) (pc := 46) hx hb dX12_put_46 rfl ?_
          exact ih1 (j + 1) (k + 1) f5 (by omega) (by omega) (by rw [cnt_s1 hz0]; omega) _ _ _ hW (lv_sub hl [1, 2, 0] rfl)
        · have hz0 := c4
          refine lv_goto (tgt := 43) (pc := 17) hx hb dX12_put_17 rfl ?_
          refine lv_iinc (v := sh (j + 1)) (lv' := [(2, .int (sh (j + 1))), (0, .ref h0), (1, .int v)]) (pc := 43) hx hb dX12_put_43 hl (k := 2) rfl (sh_step j h4) (by decide) rfl (fun ls hl => ?_)
          refine lv_goto (tgt := 3) (pc := 46) hx hb dX12_put_46 rfl ?_
          exact ih1 (j + 1) k f (by omega) (by omega) (by rw [cnt_s0 hz0]; omega) _ _ _ hW (lv_sub hl [1, 2, 0] rfl)
  exact loop1 5 0 n0 f0 (by decide) (by decide) rfl _ _ _ hW (lv_sub hl [1, 2, 0] rfl)

set_option maxHeartbeats 4000000 in
set_option maxRecDepth 100000 in
theorem C_X12_feed (l : Launch) (g : GG) (h0 b1 b6 b7 b8 b9 b10 b11 b12 b13 b14 b15 b16 b17 b21 b22 b23 b24 b25 b26 b28 b29 b30 b31 b32 b33 b34 b35 b36 b46 b47 b48 b49 b50 b51 b52 b53 b54 b55 b56 b57 b58 b59 b60 b61 b62 b63 : Nat) (p0 p1 p2 p3 p4 : Int32) : MetI l g yX12_feed cX12_feed 6 (some .int) 1 0 0 [.ref h0, .int p0, .int p1, .int p2, .int p3, .int p4] [(h0, .inr (12, [.int 0, .ref b1, .int 0, .int 0, .int 0, .int 0, .ref b6, .ref b7, .ref b8, .ref b9, .ref b10, .ref b11, .ref b12, .ref b13, .ref b14, .ref b15, .ref b16, .ref b17, .int 0, .int (-1), .int (-1), .ref b21, .ref b22, .ref b23, .ref b24, .ref b25, .ref b26, .int 0, .ref b28, .ref b29, .ref b30, .ref b31, .ref b32, .ref b33, .ref b34, .ref b35, .ref b36, .int 0, .int 0, .int 0, .int 0, .int 0, .int 0, .int 0, .int 0, .int 0, .ref b46, .ref b47, .ref b48, .ref b49, .ref b50, .ref b51, .ref b52, .ref b53, .ref b54, .ref b55, .ref b56, .ref b57, .ref b58, .ref b59, .ref b60, .ref b61, .ref b62, .ref b63])), (b1, .inl (g.2.1 0, 400, .inl (fun _ => 0)))] (fun r u => r = nI (((((0 + cnt p0 4) + cnt p1 4) + cnt p2 4) + cnt p3 4) + cnt p4 4) ∧ u = []) := by
  refine MetI.of (own := RX12) rfl (by decide) (Nat.le_of_ble_eq_true rfl) ?_
  intro p e s m below meth c A ls args Q hQ X hr hin hW hl
  have hx := X.1
  have hb := X.2.1
  have hl : lv_has ls 6 [(0, .ref h0), (1, .int p0), (2, .int p1), (3, .int p2), (4, .int p3), (5, .int p4)] := hl
  have k0 := cnt_4 p0
  have k1 := cnt_4 p1
  have k2 := cnt_4 p2
  have k3 := cnt_4 p3
  have k4 := cnt_4 p4
  refine lv_aload_n (pc := 0) hx hb dX12_feed_0 rfl (lv_at hl 0 rfl) ?_
  refine lv_iconst (v := 0) (pc := 1) hx hb dX12_feed_1 (by decide) ?_
  refine r_put (ws' := [(h0, .inr (12, [.int 0, .ref b1, .int 0, .int 0, .int 0, .int 0, .ref b6, .ref b7, .ref b8, .ref b9, .ref b10, .ref b11, .ref b12, .ref b13, .ref b14, .ref b15, .ref b16, .ref b17, .int 0, .int (-1), .int (-1), .ref b21, .ref b22, .ref b23, .ref b24, .ref b25, .ref b26, .int 0, .ref b28, .ref b29, .ref b30, .ref b31, .ref b32, .ref b33, .ref b34, .ref b35, .ref b36, .int 0, .int 0, .int 0, .int 0, .int 0, .int 0, .int 0, .int 0, .int 0, .ref b46, .ref b47, .ref b48, .ref b49, .ref b50, .ref b51, .ref b52, .ref b53, .ref b54, .ref b55, .ref b56, .ref b57, .ref b58, .ref b59, .ref b60, .ref b61, .ref b62, .ref b63])), (b1, .inl (g.2.1 0, 400, .inl (fun _ => 0)))]) X hW 0 ciX12 0 rfl (by decide) m_1231 rfl rfl rfl rfl (Nat.le_of_ble_eq_true rfl) rfl dX12_feed_2 (fun H locs hW => ?_)
  refine lv_aload_n (pc := 5) hx hb dX12_feed_5 rfl (lv_at hl 0 rfl) ?_
  refine r_get X hW 0 ciX12 2 rfl (by decide) m_1233 rfl rfl dX12_feed_6 ?_
  refine lv_iload_n (pc := 9) hx hb dX12_feed_9 rfl (lv_at hl 1 rfl) ?_
  refine c_Si (pc := 10) (As := [.int p0]) (rest := [.int 0]) (wr := [(h0, .inr (12, [.int 0, .ref b1, .int 0, .int 0, .int 0, .int 0, .ref b6, .ref b7, .ref b8, .ref b9, .ref b10, .ref b11, .ref b12, .ref b13, .ref b14, .ref b15, .ref b16, .ref b17, .int 0, .int (-1), .int (-1), .ref b21, .ref b22, .ref b23, .ref b24, .ref b25, .ref b26, .int 0, .ref b28, .ref b29, .ref b30, .ref b31, .ref b32, .ref b33, .ref b34, .ref b35, .ref b36, .int 0, .int 0, .int 0, .int 0, .int 0, .int 0, .int 0, .int 0, .int 0, .ref b46, .ref b47, .ref b48, .ref b49, .ref b50, .ref b51, .ref b52, .ref b53, .ref b54, .ref b55, .ref b56, .ref b57, .ref b58, .ref b59, .ref b60, .ref b61, .ref b62, .ref b63])), (b1, .inl (g.2.1 0, 400, .inl (fun _ => 0)))]) X hW (C_X12_bytesIn l g p0) vX12_166 [] [0, 1] rfl rfl rfl rfl rfl rfl hl.1 rfl (Nat.le_of_ble_eq_true rfl) ⟨Nat.le_of_ble_eq_true rfl, Nat.le_of_ble_eq_true rfl⟩ ⟨Nat.le_of_ble_eq_true rfl, Nat.le_of_ble_eq_true rfl⟩ dX12_feed_10 (fun r1 u9 H locs hq hW => ?_)
  obtain ⟨rfl, rfl⟩ := hq
  have hW : WD g A s _ _ [(h0, .inr (12, [.int 0, .ref b1, .int 0, .int 0, .int 0, .int 0, .ref b6, .ref b7, .ref b8, .ref b9, .ref b10, .ref b11, .ref b12, .ref b13, .ref b14, .ref b15, .ref b16, .ref b17, .int 0, .int (-1), .int (-1), .ref b21, .ref b22, .ref b23, .ref b24, .ref b25, .ref b26, .int 0, .ref b28, .ref b29, .ref b30, .ref b31, .ref b32, .ref b33, .ref b34, .ref b35, .ref b36, .int 0, .int 0, .int 0, .int 0, .int 0, .int 0, .int 0, .int 0, .int 0, .ref b46, .ref b47, .ref b48, .ref b49, .ref b50, .ref b51, .ref b52, .ref b53, .ref b54, .ref b55, .ref b56, .ref b57, .ref b58, .ref b59, .ref b60, .ref b61, .ref b62, .ref b63])), (b1, .inl (g.2.1 0, 400, .inl (fun _ => 0)))] := hW
  refine lv_iadd (pc := 13) hx hb dX12_feed_13 ?_
  refine lv_topi (fun v2 ev2 => ?_)
  obtain rfl : v2 = nI (cnt p0 4) := ev2.trans (Int32.zero_add _)
  refine lv_iload_n (pc := 14) hx hb dX12_feed_14 rfl (lv_at hl 2 rfl) ?_
  refine c_Si (pc := 15) (As := [.int p1]) (rest := [.int (nI (cnt p0 4))]) (wr := [(h0, .inr (12, [.int 0, .ref b1, .int 0, .int 0, .int 0, .int 0, .ref b6, .ref b7, .ref b8, .ref b9, .ref b10, .ref b11, .ref b12, .ref b13, .ref b14, .ref b15, .ref b16, .ref b17, .int 0, .int (-1), .int (-1), .ref b21, .ref b22, .ref b23, .ref b24, .ref b25, .ref b26, .int 0, .ref b28, .ref b29, .ref b30, .ref b31, .ref b32, .ref b33, .ref b34, .ref b35, .ref b36, .int 0, .int 0, .int 0, .int 0, .int 0, .int 0, .int 0, .int 0, .int 0, .ref b46, .ref b47, .ref b48, .ref b49, .ref b50, .ref b51, .ref b52, .ref b53, .ref b54, .ref b55, .ref b56, .ref b57, .ref b58, .ref b59, .ref b60, .ref b61, .ref b62, .ref b63])), (b1, .inl (g.2.1 0, 400, .inl (fun _ => 0)))]) X hW (C_X12_bytesIn l g p1) vX12_166 [] [0, 1] rfl rfl rfl rfl rfl rfl hl.1 rfl (Nat.le_of_ble_eq_true rfl) ⟨Nat.le_of_ble_eq_true rfl, Nat.le_of_ble_eq_true rfl⟩ ⟨Nat.le_of_ble_eq_true rfl, Nat.le_of_ble_eq_true rfl⟩ dX12_feed_15 (fun r3 u9 H locs hq hW => ?_)
  obtain ⟨rfl, rfl⟩ := hq
  have hW : WD g A s _ _ [(h0, .inr (12, [.int 0, .ref b1, .int 0, .int 0, .int 0, .int 0, .ref b6, .ref b7, .ref b8, .ref b9, .ref b10, .ref b11, .ref b12, .ref b13, .ref b14, .ref b15, .ref b16, .ref b17, .int 0, .int (-1), .int (-1), .ref b21, .ref b22, .ref b23, .ref b24, .ref b25, .ref b26, .int 0, .ref b28, .ref b29, .ref b30, .ref b31, .ref b32, .ref b33, .ref b34, .ref b35, .ref b36, .int 0, .int 0, .int 0, .int 0, .int 0, .int 0, .int 0, .int 0, .int 0, .ref b46, .ref b47, .ref b48, .ref b49, .ref b50, .ref b51, .ref b52, .ref b53, .ref b54, .ref b55, .ref b56, .ref b57, .ref b58, .ref b59, .ref b60, .ref b61, .ref b62, .ref b63])), (b1, .inl (g.2.1 0, 400, .inl (fun _ => 0)))] := hW
  refine lv_iadd (pc := 18) hx hb dX12_feed_18 ?_
  refine lv_topi (fun v4 ev4 => ?_)
  obtain rfl : v4 = nI (cnt p0 4 + cnt p1 4) := ev4.trans (nI_add _ _)
  refine lv_iload_n (pc := 19) hx hb dX12_feed_19 rfl (lv_at hl 3 rfl) ?_
  refine c_Si (pc := 20) (As := [.int p2]) (rest := [.int (nI (cnt p0 4 + cnt p1 4))]) (wr := [(h0, .inr (12, [.int 0, .ref b1, .int 0, .int 0, .int 0, .int 0, .ref b6, .ref b7, .ref b8, .ref b9, .ref b10, .ref b11, .ref b12, .ref b13, .ref b14, .ref b15, .ref b16, .ref b17, .int 0, .int (-1), .int (-1), .ref b21, .ref b22, .ref b23, .ref b24, .ref b25, .ref b26, .int 0, .ref b28, .ref b29, .ref b30, .ref b31, .ref b32, .ref b33, .ref b34, .ref b35, .ref b36, .int 0, .int 0, .int 0, .int 0, .int 0, .int 0, .int 0, .int 0, .int 0, .ref b46, .ref b47, .ref b48, .ref b49, .ref b50, .ref b51, .ref b52, .ref b53, .ref b54, .ref b55, .ref b56, .ref b57, .ref b58, .ref b59, .ref b60, .ref b61, .ref b62, .ref b63])), (b1, .inl (g.2.1 0, 400, .inl (fun _ => 0)))]) X hW (C_X12_bytesIn l g p2) vX12_166 [] [0, 1] rfl rfl rfl rfl rfl rfl hl.1 rfl (Nat.le_of_ble_eq_true rfl) ⟨Nat.le_of_ble_eq_true rfl, Nat.le_of_ble_eq_true rfl⟩ ⟨Nat.le_of_ble_eq_true rfl, Nat.le_of_ble_eq_true rfl⟩ dX12_feed_20 (fun r5 u9 H locs hq hW => ?_)
  obtain ⟨rfl, rfl⟩ := hq
  have hW : WD g A s _ _ [(h0, .inr (12, [.int 0, .ref b1, .int 0, .int 0, .int 0, .int 0, .ref b6, .ref b7, .ref b8, .ref b9, .ref b10, .ref b11, .ref b12, .ref b13, .ref b14, .ref b15, .ref b16, .ref b17, .int 0, .int (-1), .int (-1), .ref b21, .ref b22, .ref b23, .ref b24, .ref b25, .ref b26, .int 0, .ref b28, .ref b29, .ref b30, .ref b31, .ref b32, .ref b33, .ref b34, .ref b35, .ref b36, .int 0, .int 0, .int 0, .int 0, .int 0, .int 0, .int 0, .int 0, .int 0, .ref b46, .ref b47, .ref b48, .ref b49, .ref b50, .ref b51, .ref b52, .ref b53, .ref b54, .ref b55, .ref b56, .ref b57, .ref b58, .ref b59, .ref b60, .ref b61, .ref b62, .ref b63])), (b1, .inl (g.2.1 0, 400, .inl (fun _ => 0)))] := hW
  refine lv_iadd (pc := 23) hx hb dX12_feed_23 ?_
  refine lv_topi (fun v6 ev6 => ?_)
  obtain rfl : v6 = nI (cnt p0 4 + cnt p1 4 + cnt p2 4) := ev6.trans (nI_add _ _)
  refine lv_iload (pc := 24) hx hb dX12_feed_24 (lv_at hl 4 rfl) ?_
  refine c_Si (pc := 26) (As := [.int p3]) (rest := [.int (nI (cnt p0 4 + cnt p1 4 + cnt p2 4))]) (wr := [(h0, .inr (12, [.int 0, .ref b1, .int 0, .int 0, .int 0, .int 0, .ref b6, .ref b7, .ref b8, .ref b9, .ref b10, .ref b11, .ref b12, .ref b13, .ref b14, .ref b15, .ref b16, .ref b17, .int 0, .int (-1), .int (-1), .ref b21, .ref b22, .ref b23, .ref b24, .ref b25, .ref b26, .int 0, .ref b28, .ref b29, .ref b30, .ref b31, .ref b32, .ref b33, .ref b34, .ref b35, .ref b36, .int 0, .int 0, .int 0, .int 0, .int 0, .int 0, .int 0, .int 0, .int 0, .ref b46, .ref b47, .ref b48, .ref b49, .ref b50, .ref b51, .ref b52, .ref b53, .ref b54, .ref b55, .ref b56, .ref b57, .ref b58, .ref b59, .ref b60, .ref b61, .ref b62, .ref b63])), (b1, .inl (g.2.1 0, 400, .inl (fun _ => 0)))]) X hW (C_X12_bytesIn l g p3) vX12_166 [] [0, 1] rfl rfl rfl rfl rfl rfl hl.1 rfl (Nat.le_of_ble_eq_true rfl) ⟨Nat.le_of_ble_eq_true rfl, Nat.le_of_ble_eq_true rfl⟩ ⟨Nat.le_of_ble_eq_true rfl, Nat.le_of_ble_eq_true rfl⟩ dX12_feed_26 (fun r7 u9 H locs hq hW => ?_)
  obtain ⟨rfl, rfl⟩ := hq
  have hW : WD g A s _ _ [(h0, .inr (12, [.int 0, .ref b1, .int 0, .int 0, .int 0, .int 0, .ref b6, .ref b7, .ref b8, .ref b9, .ref b10, .ref b11, .ref b12, .ref b13, .ref b14, .ref b15, .ref b16, .ref b17, .int 0, .int (-1), .int (-1), .ref b21, .ref b22, .ref b23, .ref b24, .ref b25, .ref b26, .int 0, .ref b28, .ref b29, .ref b30, .ref b31, .ref b32, .ref b33, .ref b34, .ref b35, .ref b36, .int 0, .int 0, .int 0, .int 0, .int 0, .int 0, .int 0, .int 0, .int 0, .ref b46, .ref b47, .ref b48, .ref b49, .ref b50, .ref b51, .ref b52, .ref b53, .ref b54, .ref b55, .ref b56, .ref b57, .ref b58, .ref b59, .ref b60, .ref b61, .ref b62, .ref b63])), (b1, .inl (g.2.1 0, 400, .inl (fun _ => 0)))] := hW
  refine lv_iadd (pc := 29) hx hb dX12_feed_29 ?_
  refine lv_topi (fun v8 ev8 => ?_)
  obtain rfl : v8 = nI (cnt p0 4 + cnt p1 4 + cnt p2 4 + cnt p3 4) := ev8.trans (nI_add _ _)
  refine lv_iload (pc := 30) hx hb dX12_feed_30 (lv_at hl 5 rfl) ?_
  refine c_Si (pc := 32) (As := [.int p4]) (rest := [.int (nI (cnt p0 4 + cnt p1 4 + cnt p2 4 + cnt p3 4))]) (wr := [(h0, .inr (12, [.int 0, .ref b1, .int 0, .int 0, .int 0, .int 0, .ref b6, .ref b7, .ref b8, .ref b9, .ref b10, .ref b11, .ref b12, .ref b13, .ref b14, .ref b15, .ref b16, .ref b17, .int 0, .int (-1), .int (-1), .ref b21, .ref b22, .ref b23, .ref b24, .ref b25, .ref b26, .int 0, .ref b28, .ref b29, .ref b30, .ref b31, .ref b32, .ref b33, .ref b34, .ref b35, .ref b36, .int 0, .int 0, .int 0, .int 0, .int 0, .int 0, .int 0, .int 0, .int 0, .ref b46, .ref b47, .ref b48, .ref b49, .ref b50, .ref b51, .ref b52, .ref b53, .ref b54, .ref b55, .ref b56, .ref b57, .ref b58, .ref b59, .ref b60, .ref b61, .ref b62, .ref b63])), (b1, .inl (g.2.1 0, 400, .inl (fun _ => 0)))]) X hW (C_X12_bytesIn l g p4) vX12_166 [] [0, 1] rfl rfl rfl rfl rfl rfl hl.1 rfl (Nat.le_of_ble_eq_true rfl) ⟨Nat.le_of_ble_eq_true rfl, Nat.le_of_ble_eq_true rfl⟩ ⟨Nat.le_of_ble_eq_true rfl, Nat.le_of_ble_eq_true rfl⟩ dX12_feed_32 (fun r9 u9 H locs hq hW => ?_)
  obtain ⟨rfl, rfl⟩ := hq
  have hW : WD g A s _ _ [(h0, .inr (12, [.int 0, .ref b1, .int 0, .int 0, .int 0, .int 0, .ref b6, .ref b7, .ref b8, .ref b9, .ref b10, .ref b11, .ref b12, .ref b13, .ref b14, .ref b15, .ref b16, .ref b17, .int 0, .int (-1), .int (-1), .ref b21, .ref b22, .ref b23, .ref b24, .ref b25, .ref b26, .int 0, .ref b28, .ref b29, .ref b30, .ref b31, .ref b32, .ref b33, .ref b34, .ref b35, .ref b36, .int 0, .int 0, .int 0, .int 0, .int 0, .int 0, .int 0, .int 0, .int 0, .ref b46, .ref b47, .ref b48, .ref b49, .ref b50, .ref b51, .ref b52, .ref b53, .ref b54, .ref b55, .ref b56, .ref b57, .ref b58, .ref b59, .ref b60, .ref b61, .ref b62, .ref b63])), (b1, .inl (g.2.1 0, 400, .inl (fun _ => 0)))] := hW
  refine lv_iadd (pc := 35) hx hb dX12_feed_35 ?_
  refine lv_topi (fun v10 ev10 => ?_)
  obtain rfl : v10 = nI (cnt p0 4 + cnt p1 4 + cnt p2 4 + cnt p3 4 + cnt p4 4) := ev10.trans (nI_add _ _)
  refine lv_sipush (v := 400) (pc := 36) hx hb dX12_feed_36 (by decide) ?_
  refine lv_icmp_le (tgt := 44) (pc := 39) hx hb dX12_feed_39 rfl (fun c11 => ?_) (fun c11 => absurd (nI_le (show _ ≤ 400 by omega) (by decide)) c11)
  refine lv_aload_n (pc := 44) hx hb dX12_feed_44 rfl (lv_at hl 0 rfl) ?_
  refine lv_iload_n (pc := 45) hx hb dX12_feed_45 rfl (lv_at hl 1 rfl) ?_
  refine c_Vv (pc := 46) (As := [.int p0]) (rest := []) (wr := []) X hW 0 ciX12 rfl (C_X12_put l g h0 b1 b6 b7 b8 b9 b10 b11 b12 b13 b14 b15 b16 b17 b21 b22 b23 b24 b25 b26 b28 b29 b30 b31 b32 b33 b34 b35 b36 b46 b47 b48 b49 b50 b51 b52 b53 b54 b55 b56 b57 b58 b59 b60 b61 b62 b63 (fun _ => 0) 0 p0 (by omega)) vX12_170 [0, 1] [] rfl rfl rfl rfl rfl rfl hl.1 rfl (Nat.le_of_ble_eq_true rfl) ⟨Nat.le_of_ble_eq_true rfl, Nat.le_of_ble_eq_true rfl⟩ ⟨Nat.le_of_ble_eq_true rfl, Nat.le_of_ble_eq_true rfl⟩ dX12_feed_46 (fun u9 H locs hq hW => ?_)
  obtain ⟨f12, rfl⟩ := hq
  have hW : WD g A s _ _ [(h0, .inr (12, [.int 0, .ref b1, .int (nI (0 + cnt p0 4)), .int 0, .int 0, .int 0, .ref b6, .ref b7, .ref b8, .ref b9, .ref b10, .ref b11, .ref b12, .ref b13, .ref b14, .ref b15, .ref b16, .ref b17, .int 0, .int (-1), .int (-1), .ref b21, .ref b22, .ref b23, .ref b24, .ref b25, .ref b26, .int 0, .ref b28, .ref b29, .ref b30, .ref b31, .ref b32, .ref b33, .ref b34, .ref b35, .ref b36, .int 0, .int 0, .int 0, .int 0, .int 0, .int 0, .int 0, .int 0, .int 0, .ref b46, .ref b47, .ref b48, .ref b49, .ref b50, .ref b51, .ref b52, .ref b53, .ref b54, .ref b55, .ref b56, .ref b57, .ref b58, .ref b59, .ref b60, .ref b61, .ref b62, .ref b63])), (b1, .inl (g.2.1 0, 400, .inl f12))] := hW
  refine lv_aload_n (pc := 49) hx hb dX12_feed_49 rfl (lv_at hl 0 rfl) ?_
  refine lv_iload_n (pc := 50) hx hb dX12_feed_50 rfl (lv_at hl 2 rfl) ?_
  refine c_Vv (pc := 51) (As := [.int p1]) (rest := []) (wr := []) X hW 0 ciX12 rfl (C_X12_put l g h0 b1 b6 b7 b8 b9 b10 b11 b12 b13 b14 b15 b16 b17 b21 b22 b23 b24 b25 b26 b28 b29 b30 b31 b32 b33 b34 b35 b36 b46 b47 b48 b49 b50 b51 b52 b53 b54 b55 b56 b57 b58 b59 b60 b61 b62 b63 f12 (0 + cnt p0 4) p1 (by omega)) vX12_170 [0, 1] [] rfl rfl rfl rfl rfl rfl hl.1 rfl (Nat.le_of_ble_eq_true rfl) ⟨Nat.le_of_ble_eq_true rfl, Nat.le_of_ble_eq_true rfl⟩ ⟨Nat.le_of_ble_eq_true rfl, Nat.le_of_ble_eq_true rfl⟩ dX12_feed_51 (fun u9 H locs hq hW => ?_)
  obtain ⟨f13, rfl⟩ := hq
  have hW : WD g A s _ _ [(h0, .inr (12, [.int 0, .ref b1, .int (nI ((0 + cnt p0 4) + cnt p1 4)), .int 0, .int 0, .int 0, .ref b6, .ref b7, .ref b8, .ref b9, .ref b10, .ref b11, .ref b12, .ref b13, .ref b14, .ref b15, .ref b16, .ref b17, .int 0, .int (-1), .int (-1), .ref b21, .ref b22, .ref b23, .ref b24, .ref b25, .ref b26, .int 0, .ref b28, .ref b29, .ref b30, .ref b31, .ref b32, .ref b33, .ref b34, .ref b35, .ref b36, .int 0, .int 0, .int 0, .int 0, .int 0, .int 0, .int 0, .int 0, .int 0, .ref b46, .ref b47, .ref b48, .ref b49, .ref b50, .ref b51, .ref b52, .ref b53, .ref b54, .ref b55, .ref b56, .ref b57, .ref b58, .ref b59, .ref b60, .ref b61, .ref b62, .ref b63])), (b1, .inl (g.2.1 0, 400, .inl f13))] := hW
  refine lv_aload_n (pc := 54) hx hb dX12_feed_54 rfl (lv_at hl 0 rfl) ?_
  refine lv_iload_n (pc := 55) hx hb dX12_feed_55 rfl (lv_at hl 3 rfl) ?_
  refine c_Vv (pc := 56) (As := [.int p2]) (rest := []) (wr := []) X hW 0 ciX12 rfl (C_X12_put l g h0 b1 b6 b7 b8 b9 b10 b11 b12 b13 b14 b15 b16 b17 b21 b22 b23 b24 b25 b26 b28 b29 b30 b31 b32 b33 b34 b35 b36 b46 b47 b48 b49 b50 b51 b52 b53 b54 b55 b56 b57 b58 b59 b60 b61 b62 b63 f13 ((0 + cnt p0 4) + cnt p1 4) p2 (by omega)) vX12_170 [0, 1] [] rfl rfl rfl rfl rfl rfl hl.1 rfl (Nat.le_of_ble_eq_true rfl) ⟨Nat.le_of_ble_eq_true rfl, Nat.le_of_ble_eq_true rfl⟩ ⟨Nat.le_of_ble_eq_true rfl, Nat.le_of_ble_eq_true rfl⟩ dX12_feed_56 (fun u9 H locs hq hW => ?_)
  obtain ⟨f14, rfl⟩ := hq
  have hW : WD g A s _ _ [(h0, .inr (12, [.int 0, .ref b1, .int (nI (((0 + cnt p0 4) + cnt p1 4) + cnt p2 4)), .int 0, .int 0, .int 0, .ref b6, .ref b7, .ref b8, .ref b9, .ref b10, .ref b11, .ref b12, .ref b13, .ref b14, .ref b15, .ref b16, .ref b17, .int 0, .int (-1), .int (-1), .ref b21, .ref b22, .ref b23, .ref b24, .ref b25, .ref b26, .int 0, .ref b28, .ref b29, .ref b30, .ref b31, .ref b32, .ref b33, .ref b34, .ref b35, .ref b36, .int 0, .int 0, .int 0, .int 0, .int 0, .int 0, .int 0, .int 0, .int 0, .ref b46, .ref b47, .ref b48, .ref b49, .ref b50, .ref b51, .ref b52, .ref b53, .ref b54, .ref b55, .ref b56, .ref b57, .ref b58, .ref b59, .ref b60, .ref b61, .ref b62, .ref b63])), (b1, .inl (g.2.1 0, 400, .inl f14))] := hW
  refine lv_aload_n (pc := 59) hx hb dX12_feed_59 rfl (lv_at hl 0 rfl) ?_
  refine lv_iload (pc := 60) hx hb dX12_feed_60 (lv_at hl 4 rfl) ?_
  refine c_Vv (pc := 62) (As := [.int p3]) (rest := []) (wr := []) X hW 0 ciX12 rfl (C_X12_put l g h0 b1 b6 b7 b8 b9 b10 b11 b12 b13 b14 b15 b16 b17 b21 b22 b23 b24 b25 b26 b28 b29 b30 b31 b32 b33 b34 b35 b36 b46 b47 b48 b49 b50 b51 b52 b53 b54 b55 b56 b57 b58 b59 b60 b61 b62 b63 f14 (((0 + cnt p0 4) + cnt p1 4) + cnt p2 4) p3 (by omega)) vX12_170 [0, 1] [] rfl rfl rfl rfl rfl rfl hl.1 rfl (Nat.le_of_ble_eq_true rfl) ⟨Nat.le_of_ble_eq_true rfl, Nat.le_of_ble_eq_true rfl⟩ ⟨Nat.le_of_ble_eq_true rfl, Nat.le_of_ble_eq_true rfl⟩ dX12_feed_62 (fun u9 H locs hq hW => ?_)
  obtain ⟨f15, rfl⟩ := hq
  have hW : WD g A s _ _ [(h0, .inr (12, [.int 0, .ref b1, .int (nI ((((0 + cnt p0 4) + cnt p1 4) + cnt p2 4) + cnt p3 4)), .int 0, .int 0, .int 0, .ref b6, .ref b7, .ref b8, .ref b9, .ref b10, .ref b11, .ref b12, .ref b13, .ref b14, .ref b15, .ref b16, .ref b17, .int 0, .int (-1), .int (-1), .ref b21, .ref b22, .ref b23, .ref b24, .ref b25, .ref b26, .int 0, .ref b28, .ref b29, .ref b30, .ref b31, .ref b32, .ref b33, .ref b34, .ref b35, .ref b36, .int 0, .int 0, .int 0, .int 0, .int 0, .int 0, .int 0, .int 0, .int 0, .ref b46, .ref b47, .ref b48, .ref b49, .ref b50, .ref b51, .ref b52, .ref b53, .ref b54, .ref b55, .ref b56, .ref b57, .ref b58, .ref b59, .ref b60, .ref b61, .ref b62, .ref b63])), (b1, .inl (g.2.1 0, 400, .inl f15))] := hW
  refine lv_aload_n (pc := 65) hx hb dX12_feed_65 rfl (lv_at hl 0 rfl) ?_
  refine lv_iload (pc := 66) hx hb dX12_feed_66 (lv_at hl 5 rfl) ?_
  refine c_Vv (pc := 68) (As := [.int p4]) (rest := []) (wr := []) X hW 0 ciX12 rfl (C_X12_put l g h0 b1 b6 b7 b8 b9 b10 b11 b12 b13 b14 b15 b16 b17 b21 b22 b23 b24 b25 b26 b28 b29 b30 b31 b32 b33 b34 b35 b36 b46 b47 b48 b49 b50 b51 b52 b53 b54 b55 b56 b57 b58 b59 b60 b61 b62 b63 f15 ((((0 + cnt p0 4) + cnt p1 4) + cnt p2 4) + cnt p3 4) p4 (by omega)) vX12_170 [0, 1] [] rfl rfl rfl rfl rfl rfl hl.1 rfl (Nat.le_of_ble_eq_true rfl) ⟨Nat.le_of_ble_eq_true rfl, Nat.le_of_ble_eq_true rfl⟩ ⟨Nat.le_of_ble_eq_true rfl, Nat.le_of_ble_eq_true rfl⟩ dX12_feed_68 (fun u9 H locs hq hW => ?_)
  obtain ⟨f16, rfl⟩ := hq
  have hW : WD g A s _ _ [(h0, .inr (12, [.int 0, .ref b1, .int (nI (((((0 + cnt p0 4) + cnt p1 4) + cnt p2 4) + cnt p3 4) + cnt p4 4)), .int 0, .int 0, .int 0, .ref b6, .ref b7, .ref b8, .ref b9, .ref b10, .ref b11, .ref b12, .ref b13, .ref b14, .ref b15, .ref b16, .ref b17, .int 0, .int (-1), .int (-1), .ref b21, .ref b22, .ref b23, .ref b24, .ref b25, .ref b26, .int 0, .ref b28, .ref b29, .ref b30, .ref b31, .ref b32, .ref b33, .ref b34, .ref b35, .ref b36, .int 0, .int 0, .int 0, .int 0, .int 0, .int 0, .int 0, .int 0, .int 0, .ref b46, .ref b47, .ref b48, .ref b49, .ref b50, .ref b51, .ref b52, .ref b53, .ref b54, .ref b55, .ref b56, .ref b57, .ref b58, .ref b59, .ref b60, .ref b61, .ref b62, .ref b63])), (b1, .inl (g.2.1 0, 400, .inl f16))] := hW
  refine lv_aload_n (pc := 71) hx hb dX12_feed_71 rfl (lv_at hl 0 rfl) ?_
  refine r_get X hW 0 ciX12 2 rfl (by decide) m_1233 rfl rfl dX12_feed_72 ?_
  exact e_i X hQ hr hW (u := []) [] rfl rfl (⟨rfl, rfl⟩) ⟨Nat.le_of_ble_eq_true rfl, Nat.le_of_ble_eq_true rfl⟩ dX12_feed_75
end

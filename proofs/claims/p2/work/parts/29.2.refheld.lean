theorem b_one : ∀ i : Nat, i < 32 → bt 1 i = decide (i = 0) := by decide +kernel
theorem b_sh1 {a o : Nat} (ha : a < 32) (ho : o < 32) : bt ((1 : Int32) <<< (nI a &&& 31)) o = decide (o = a) := by
  rw [b_shl a ha 1 ho]
  by_cases h : a ≤ o
  · rw [b_one _ (by omega)]
    by_cases e : o = a
    · subst e; simp
    · have e2 : ¬ o - a = 0 := by omega
      simp [h, e, e2]
  · have e : ¬ o = a := by omega
    simp [h, e]
theorem b_and1 {y : Int32} (h : ¬ (y &&& 1) = 0) : bt y 0 = true := by
  cases e : bt y 0 with
  | true => rfl
  | false =>
    exfalso
    refine h (b_ext fun i hi => ?_)
    rw [b_and, b_one i hi, b_0]
    by_cases e2 : i = 0
    · subst e2; rw [e]; rfl
    · simp [e2]
theorem b_evy : ∀ p : Nat, p < 8 → ∀ o : Nat, o < 32 → bt (evy (nI p)) o = decide (o < p) := by decide +kernel
/-- a set that is closed along the lines both may call by -/
def rclo (La Lb Lo : Nat → Int32) (v lc pp : Nat) (S : Nat → Prop) : Prop := S 0 ∧ ∀ l : Nat, l < lc → ∀ a b : Nat, Lo (12 * v + l) = 0 → La (12 * v + l) = nI a → Lb (12 * v + l) = nI b → a < pp → b < pp → (S a ↔ S b)
def hbit (La Lb Lo : Nat → Int32) (v lc pp : Nat) (x : Int32) : Prop := bt x 0 = true ∧ ((∃ o : Nat, pp ≤ o ∧ o ≤ 6 ∧ bt x o = true) ∨ ∀ S : Nat → Prop, rclo La Lb Lo v lc pp S → ∀ o : Nat, o < 32 → bt x o = true → o < pp ∧ S o)
theorem hbit_1 {La Lb Lo : Nat → Int32} {v lc pp : Nat} : hbit La Lb Lo v lc pp 1 := by
  refine ⟨by decide, ?_⟩
  by_cases h : pp = 0
  · exact Or.inl ⟨0, by omega, by omega, by decide⟩
  · refine Or.inr fun S hS o ho hb => ?_
    rw [b_one o ho] at hb
    have e := of_decide_eq_true hb
    subst e
    exact ⟨by omega, hS.1⟩
theorem hbit_s {La Lb Lo : Nat → Int32} {v lc pp l a b : Nat} {x : Int32} (h : hbit La Lb Lo v lc pp x) (hl : l < lc) (h0 : Lo (12 * v + l) = 0) (ea : La (12 * v + l) = nI a) (eb : Lb (12 * v + l) = nI b) (ha : a ≤ 6) (hb : b ≤ 6) (ht : ¬ (((x >>> (La (12 * v + l) &&& 31)) ||| (x >>> (Lb (12 * v + l) &&& 31))) &&& 1) = 0) : hbit La Lb Lo v lc pp (x ||| (((1 : Int32) <<< (La (12 * v + l) &&& 31)) ||| ((1 : Int32) <<< (Lb (12 * v + l) &&& 31)))) := by
  rw [ea, eb] at ht ⊢
  have hbt := b_and1 ht
  rw [b_or, b_sshr a (by omega) x (by omega), b_sshr b (by omega) x (by omega), if_pos (by omega), if_pos (by omega)] at hbt
  simp only [Nat.add_zero, Bool.or_eq_true] at hbt
  refine ⟨by rw [b_or, h.1]; rfl, ?_⟩
  rcases h.2 with ⟨o, h1, h2, h3⟩ | h2
  · exact Or.inl ⟨o, h1, h2, by rw [b_or, h3]; rfl⟩
  · by_cases hpa : pp ≤ a
    · exact Or.inl ⟨a, hpa, ha, by rw [b_or, b_or, b_sh1 (by omega) (by omega)]; simp⟩
    · by_cases hpb : pp ≤ b
      · exact Or.inl ⟨b, hpb, hb, by rw [b_or, b_or, b_sh1 (a := b) (by omega) (by omega)]; simp⟩
      · refine Or.inr fun S hS o ho hbo => ?_
        have hab := hS.2 l hl a b h0 ea eb (by omega) (by omega)
        have hSab : S a ∧ S b := by
          rcases hbt with q | q
          · have := (h2 S hS a (by omega) q).2; exact ⟨this, hab.mp this⟩
          · have := (h2 S hS b (by omega) q).2; exact ⟨hab.mpr this, this⟩
        rw [b_or, b_or, b_sh1 (by omega) ho, b_sh1 (by omega) ho] at hbo
        simp only [Bool.or_eq_true, decide_eq_true_eq] at hbo
        rcases hbo with q | q | q
        · exact h2 S hS o ho q
        · subst q; exact ⟨by omega, hSab.1⟩
        · subst q; exact ⟨by omega, hSab.2⟩
theorem hbit_e {La Lb Lo : Nat → Int32} {v lc pp : Nat} {x : Int32} (h : hbit La Lb Lo v lc pp x) (hp : pp ≤ 7) (e : x = evy (nI pp)) : 1 ≤ pp ∧ ∀ S : Nat → Prop, rclo La Lb Lo v lc pp S → ∀ o : Nat, o < pp → S o := by
  subst e
  have h0 := h.1
  rw [b_evy pp (by omega) 0 (by omega)] at h0
  have h0 := of_decide_eq_true h0
  refine ⟨h0, fun S hS o ho => ?_⟩
  rcases h.2 with ⟨o', h1, h2, h3⟩ | h2
  · rw [b_evy pp (by omega) o' (by omega)] at h3
    have := of_decide_eq_true h3
    omega
  · exact (h2 S hS o (by omega) (by rw [b_evy pp (by omega) o (by omega)]; exact decide_eq_true ho)).2
/-- whether a line joins two, the first of them the caller -/
def jnv (La Lb Lo : Nat → Int32) (k : Nat) (x y : Int32) : Int32 :=
  if ¬ La k = x then (if ¬ Lo k = 0 then 0 else if ¬ La k = y then 0 else if ¬ Lb k = x then 0 else 1)
  else if Lb k = y then 1 else (if ¬ Lo k = 0 then 0 else if ¬ La k = y then 0 else if ¬ Lb k = x then 0 else 1)
theorem jnv_z {La Lb Lo : Nat → Int32} {k : Nat} {x y : Int32} : narrow .boolean (.int (jnv La Lb Lo k x y)) = .int (jnv La Lb Lo k x y) := by
  unfold jnv
  (repeat' split) <;> rfl
theorem jnv_1 {La Lb Lo : Nat → Int32} {k : Nat} {x y : Int32} (h : ¬ jnv La Lb Lo k x y = 0) : (La k = x ∧ Lb k = y) ∨ (Lo k = 0 ∧ La k = y ∧ Lb k = x) := by
  unfold jnv at h
  by_cases h1 : La k = x
  · rw [if_neg (fun q => q h1)] at h
    by_cases h2 : Lb k = y
    · exact Or.inl ⟨h1, h2⟩
    · rw [if_neg h2] at h
      by_cases h3 : Lo k = 0
      · by_cases h4 : La k = y
        · by_cases h5 : Lb k = x
          · exact Or.inr ⟨h3, h4, h5⟩
          · rw [if_neg (fun q => q h3), if_neg (fun q => q h4), if_pos h5] at h; exact absurd rfl h
        · rw [if_neg (fun q => q h3), if_pos h4] at h; exact absurd rfl h
      · rw [if_pos h3] at h; exact absurd rfl h
  · rw [if_pos h1] at h
    by_cases h3 : Lo k = 0
    · by_cases h4 : La k = y
      · by_cases h5 : Lb k = x
        · exact Or.inr ⟨h3, h4, h5⟩
        · rw [if_neg (fun q => q h3), if_neg (fun q => q h4), if_pos h5] at h; exact absurd rfl h
      · rw [if_neg (fun q => q h3), if_pos h4] at h; exact absurd rfl h
    · rw [if_pos h3] at h; exact absurd rfl h
def in6 (L : Nat → Int32) : Prop := ∀ j : Nat, j < 132 → ∃ k : Nat, k ≤ 6 ∧ L j = nI k
theorem m_1585 : (Cond.code yX12_everybody prog_14_method_23_code 2 (Option.some FieldType.int)) ∈ BW := bw (tb7 145 (by decide +kernel)) (by decide +kernel)
theorem dX12_everybody_0 : decode cX12_everybody 0 = .ok (.iconst 1, 1) := by decide +kernel
theorem dX12_everybody_1 : decode cX12_everybody 1 = .ok (.aload_n 0, 1) := by decide +kernel
theorem dX12_everybody_2 : decode cX12_everybody 2 = .ok (.getfield 13, 3) := by decide +kernel
theorem dX12_everybody_5 : decode cX12_everybody 5 = .ok (.iload_n 1, 1) := by decide +kernel
theorem dX12_everybody_6 : decode cX12_everybody 6 = .ok (.iaload, 1) := by decide +kernel
theorem dX12_everybody_7 : decode cX12_everybody 7 = .ok (.ishl, 1) := by decide +kernel
theorem dX12_everybody_8 : decode cX12_everybody 8 = .ok (.iconst 1, 1) := by decide +kernel
theorem dX12_everybody_9 : decode cX12_everybody 9 = .ok (.isub, 1) := by decide +kernel
theorem dX12_everybody_10 : decode cX12_everybody 10 = .ok (.ireturn, 1) := by decide +kernel
theorem m_1521 : (Cond.code yX12_joins prog_14_method_29_code 4 (Option.some FieldType.boolean)) ∈ BW := bw (tb7 81 (by decide +kernel)) (by decide +kernel)
theorem dX12_joins_0 : decode cX12_joins 0 = .ok (.aload_n 0, 1) := by decide +kernel
theorem dX12_joins_1 : decode cX12_joins 1 = .ok (.getfield 32, 3) := by decide +kernel
theorem dX12_joins_4 : decode cX12_joins 4 = .ok (.iload_n 1, 1) := by decide +kernel
theorem dX12_joins_5 : decode cX12_joins 5 = .ok (.iaload, 1) := by decide +kernel
theorem dX12_joins_6 : decode cX12_joins 6 = .ok (.iload_n 2, 1) := by decide +kernel
theorem dX12_joins_7 : decode cX12_joins 7 = .ok (.if_icmp .ne 13, 3) := by decide +kernel
theorem dX12_joins_20 : decode cX12_joins 20 = .ok (.aload_n 0, 1) := by decide +kernel
theorem dX12_joins_21 : decode cX12_joins 21 = .ok (.getfield 47, 3) := by decide +kernel
theorem dX12_joins_24 : decode cX12_joins 24 = .ok (.iload_n 1, 1) := by decide +kernel
theorem dX12_joins_25 : decode cX12_joins 25 = .ok (.baload, 1) := by decide +kernel
theorem dX12_joins_26 : decode cX12_joins 26 = .ok (.ifCond .ne 27, 3) := by decide +kernel
theorem dX12_joins_53 : decode cX12_joins 53 = .ok (.iconst 0, 1) := by decide +kernel
theorem dX12_joins_54 : decode cX12_joins 54 = .ok (.ireturn, 1) := by decide +kernel
theorem dX12_joins_29 : decode cX12_joins 29 = .ok (.aload_n 0, 1) := by decide +kernel
theorem dX12_joins_30 : decode cX12_joins 30 = .ok (.getfield 32, 3) := by decide +kernel
theorem dX12_joins_33 : decode cX12_joins 33 = .ok (.iload_n 1, 1) := by decide +kernel
theorem dX12_joins_34 : decode cX12_joins 34 = .ok (.iaload, 1) := by decide +kernel
theorem dX12_joins_35 : decode cX12_joins 35 = .ok (.iload_n 3, 1) := by decide +kernel
theorem dX12_joins_36 : decode cX12_joins 36 = .ok (.if_icmp .ne 17, 3) := by decide +kernel
theorem dX12_joins_39 : decode cX12_joins 39 = .ok (.aload_n 0, 1) := by decide +kernel
theorem dX12_joins_40 : decode cX12_joins 40 = .ok (.getfield 35, 3) := by decide +kernel
theorem dX12_joins_43 : decode cX12_joins 43 = .ok (.iload_n 1, 1) := by decide +kernel
theorem dX12_joins_44 : decode cX12_joins 44 = .ok (.iaload, 1) := by decide +kernel
theorem dX12_joins_45 : decode cX12_joins 45 = .ok (.iload_n 2, 1) := by decide +kernel
theorem dX12_joins_46 : decode cX12_joins 46 = .ok (.if_icmp .ne 7, 3) := by decide +kernel
theorem dX12_joins_49 : decode cX12_joins 49 = .ok (.iconst 1, 1) := by decide +kernel
theorem dX12_joins_50 : decode cX12_joins 50 = .ok (.goto 4, 3) := by decide +kernel
theorem dX12_joins_10 : decode cX12_joins 10 = .ok (.aload_n 0, 1) := by decide +kernel
theorem dX12_joins_11 : decode cX12_joins 11 = .ok (.getfield 35, 3) := by decide +kernel
theorem dX12_joins_14 : decode cX12_joins 14 = .ok (.iload_n 1, 1) := by decide +kernel
theorem dX12_joins_15 : decode cX12_joins 15 = .ok (.iaload, 1) := by decide +kernel
theorem dX12_joins_16 : decode cX12_joins 16 = .ok (.iload_n 3, 1) := by decide +kernel
theorem dX12_joins_17 : decode cX12_joins 17 = .ok (.if_icmp .eq 32, 3) := by decide +kernel
theorem m_1678 : (Cond.code yX12_holdsAll prog_14_method_65_code 6 (Option.some FieldType.boolean)) ∈ BW := bw (tb7 238 (by decide +kernel)) (by decide +kernel)
theorem dX12_holdsAll_0 : decode cX12_holdsAll 0 = .ok (.iconst 1, 1) := by decide +kernel
theorem dX12_holdsAll_1 : decode cX12_holdsAll 1 = .ok (.istore_n 2, 1) := by decide +kernel
theorem dX12_holdsAll_2 : decode cX12_holdsAll 2 = .ok (.iconst 0, 1) := by decide +kernel
theorem dX12_holdsAll_3 : decode cX12_holdsAll 3 = .ok (.istore_n 3, 1) := by decide +kernel
theorem dX12_holdsAll_4 : decode cX12_holdsAll 4 = .ok (.iload_n 3, 1) := by decide +kernel
theorem dX12_holdsAll_5 : decode cX12_holdsAll 5 = .ok (.bipush 7, 2) := by decide +kernel
theorem dX12_holdsAll_7 : decode cX12_holdsAll 7 = .ok (.if_icmp .ge 97, 3) := by decide +kernel
theorem dX12_holdsAll_104 : decode cX12_holdsAll 104 = .ok (.iload_n 2, 1) := by decide +kernel
theorem dX12_holdsAll_105 : decode cX12_holdsAll 105 = .ok (.aload_n 0, 1) := by decide +kernel
theorem dX12_holdsAll_106 : decode cX12_holdsAll 106 = .ok (.iload_n 1, 1) := by decide +kernel
theorem m_1582 : (Cond.methodLink "NoonValleyModel" 274 yX12_everybody) ∈ BW := bw (tb7 142 (by decide +kernel)) (by decide +kernel)
theorem m_1584 : (Cond.instanceMethod yX12_everybody) ∈ BW := bw (tb7 144 (by decide +kernel)) (by decide +kernel)
theorem s_5_11 : (Cond.selects RX12 yX12_everybody yX12_everybody) ∈ BW := bw (sl5 (y := yX12_everybody) (n := 64) 11 (by decide +kernel)) (by decide +kernel)
theorem vX12_274 : LV RX12 274 RX12 yX12_everybody cX12_everybody 2 (some .int) 1 := ⟨m_1582, m_1584, s_5_11, m_12, m_1585, rfl, by decide, by decide, by decide +kernel⟩
theorem dX12_holdsAll_107 : decode cX12_holdsAll 107 = .ok (.invokevirtual 274, 3) := by decide +kernel
theorem dX12_holdsAll_110 : decode cX12_holdsAll 110 = .ok (.if_icmp .ne 7, 3) := by decide +kernel
theorem dX12_holdsAll_117 : decode cX12_holdsAll 117 = .ok (.iconst 0, 1) := by decide +kernel
theorem dX12_holdsAll_118 : decode cX12_holdsAll 118 = .ok (.ireturn, 1) := by decide +kernel
theorem dX12_holdsAll_113 : decode cX12_holdsAll 113 = .ok (.iconst 1, 1) := by decide +kernel
theorem dX12_holdsAll_114 : decode cX12_holdsAll 114 = .ok (.goto 4, 3) := by decide +kernel
theorem dX12_holdsAll_10 : decode cX12_holdsAll 10 = .ok (.iconst 0, 1) := by decide +kernel
theorem dX12_holdsAll_11 : decode cX12_holdsAll 11 = .ok (.istore 4, 2) := by decide +kernel
theorem dX12_holdsAll_13 : decode cX12_holdsAll 13 = .ok (.iload 4, 2) := by decide +kernel
theorem dX12_holdsAll_15 : decode cX12_holdsAll 15 = .ok (.aload_n 0, 1) := by decide +kernel
theorem dX12_holdsAll_16 : decode cX12_holdsAll 16 = .ok (.getfield 17, 3) := by decide +kernel
theorem dX12_holdsAll_19 : decode cX12_holdsAll 19 = .ok (.iload_n 1, 1) := by decide +kernel
theorem dX12_holdsAll_20 : decode cX12_holdsAll 20 = .ok (.iaload, 1) := by decide +kernel
theorem dX12_holdsAll_21 : decode cX12_holdsAll 21 = .ok (.if_icmp .ge 77, 3) := by decide +kernel
theorem dX12_holdsAll_98 : decode cX12_holdsAll 98 = .ok (.iinc 3 1, 3) := by decide +kernel
theorem dX12_holdsAll_101 : decode cX12_holdsAll 101 = .ok (.goto (-97), 3) := by decide +kernel
theorem dX12_holdsAll_24 : decode cX12_holdsAll 24 = .ok (.bipush 12, 2) := by decide +kernel
theorem dX12_holdsAll_26 : decode cX12_holdsAll 26 = .ok (.iload_n 1, 1) := by decide +kernel
theorem dX12_holdsAll_27 : decode cX12_holdsAll 27 = .ok (.imul, 1) := by decide +kernel
theorem dX12_holdsAll_28 : decode cX12_holdsAll 28 = .ok (.iload 4, 2) := by decide +kernel
theorem dX12_holdsAll_30 : decode cX12_holdsAll 30 = .ok (.iadd, 1) := by decide +kernel
theorem dX12_holdsAll_31 : decode cX12_holdsAll 31 = .ok (.istore 5, 2) := by decide +kernel
theorem dX12_holdsAll_33 : decode cX12_holdsAll 33 = .ok (.aload_n 0, 1) := by decide +kernel
theorem dX12_holdsAll_34 : decode cX12_holdsAll 34 = .ok (.getfield 47, 3) := by decide +kernel
theorem dX12_holdsAll_37 : decode cX12_holdsAll 37 = .ok (.iload 5, 2) := by decide +kernel
theorem dX12_holdsAll_39 : decode cX12_holdsAll 39 = .ok (.baload, 1) := by decide +kernel
theorem dX12_holdsAll_40 : decode cX12_holdsAll 40 = .ok (.ifCond .ne 52, 3) := by decide +kernel
theorem dX12_holdsAll_92 : decode cX12_holdsAll 92 = .ok (.iinc 4 1, 3) := by decide +kernel
theorem dX12_holdsAll_95 : decode cX12_holdsAll 95 = .ok (.goto (-82), 3) := by decide +kernel
theorem dX12_holdsAll_43 : decode cX12_holdsAll 43 = .ok (.iload_n 2, 1) := by decide +kernel
theorem dX12_holdsAll_44 : decode cX12_holdsAll 44 = .ok (.aload_n 0, 1) := by decide +kernel
theorem dX12_holdsAll_45 : decode cX12_holdsAll 45 = .ok (.getfield 32, 3) := by decide +kernel
theorem dX12_holdsAll_48 : decode cX12_holdsAll 48 = .ok (.iload 5, 2) := by decide +kernel
theorem dX12_holdsAll_50 : decode cX12_holdsAll 50 = .ok (.iaload, 1) := by decide +kernel
theorem dX12_holdsAll_51 : decode cX12_holdsAll 51 = .ok (.ishr, 1) := by decide +kernel
theorem dX12_holdsAll_52 : decode cX12_holdsAll 52 = .ok (.iload_n 2, 1) := by decide +kernel
theorem dX12_holdsAll_53 : decode cX12_holdsAll 53 = .ok (.aload_n 0, 1) := by decide +kernel
theorem dX12_holdsAll_54 : decode cX12_holdsAll 54 = .ok (.getfield 35, 3) := by decide +kernel
theorem dX12_holdsAll_57 : decode cX12_holdsAll 57 = .ok (.iload 5, 2) := by decide +kernel
theorem dX12_holdsAll_59 : decode cX12_holdsAll 59 = .ok (.iaload, 1) := by decide +kernel
theorem dX12_holdsAll_60 : decode cX12_holdsAll 60 = .ok (.ishr, 1) := by decide +kernel
theorem dX12_holdsAll_61 : decode cX12_holdsAll 61 = .ok (.ior, 1) := by decide +kernel
theorem dX12_holdsAll_62 : decode cX12_holdsAll 62 = .ok (.iconst 1, 1) := by decide +kernel
theorem dX12_holdsAll_63 : decode cX12_holdsAll 63 = .ok (.iand, 1) := by decide +kernel
theorem dX12_holdsAll_64 : decode cX12_holdsAll 64 = .ok (.ifCond .ne 6, 3) := by decide +kernel
theorem dX12_holdsAll_70 : decode cX12_holdsAll 70 = .ok (.iload_n 2, 1) := by decide +kernel
theorem dX12_holdsAll_71 : decode cX12_holdsAll 71 = .ok (.iconst 1, 1) := by decide +kernel
theorem dX12_holdsAll_72 : decode cX12_holdsAll 72 = .ok (.aload_n 0, 1) := by decide +kernel
theorem dX12_holdsAll_73 : decode cX12_holdsAll 73 = .ok (.getfield 32, 3) := by decide +kernel
theorem dX12_holdsAll_76 : decode cX12_holdsAll 76 = .ok (.iload 5, 2) := by decide +kernel
theorem dX12_holdsAll_78 : decode cX12_holdsAll 78 = .ok (.iaload, 1) := by decide +kernel
theorem dX12_holdsAll_79 : decode cX12_holdsAll 79 = .ok (.ishl, 1) := by decide +kernel
theorem dX12_holdsAll_80 : decode cX12_holdsAll 80 = .ok (.iconst 1, 1) := by decide +kernel
theorem dX12_holdsAll_81 : decode cX12_holdsAll 81 = .ok (.aload_n 0, 1) := by decide +kernel
theorem dX12_holdsAll_82 : decode cX12_holdsAll 82 = .ok (.getfield 35, 3) := by decide +kernel
theorem dX12_holdsAll_85 : decode cX12_holdsAll 85 = .ok (.iload 5, 2) := by decide +kernel
theorem dX12_holdsAll_87 : decode cX12_holdsAll 87 = .ok (.iaload, 1) := by decide +kernel
theorem dX12_holdsAll_88 : decode cX12_holdsAll 88 = .ok (.ishl, 1) := by decide +kernel
theorem dX12_holdsAll_89 : decode cX12_holdsAll 89 = .ok (.ior, 1) := by decide +kernel
theorem dX12_holdsAll_90 : decode cX12_holdsAll 90 = .ok (.ior, 1) := by decide +kernel
theorem dX12_holdsAll_91 : decode cX12_holdsAll 91 = .ok (.istore_n 2, 1) := by decide +kernel
theorem dX12_holdsAll_67 : decode cX12_holdsAll 67 = .ok (.goto 25, 3) := by decide +kernel
set_option maxHeartbeats 4000000 in
set_option maxRecDepth 100000 in
theorem C_X12_everybodyG (l : Launch) (g : GG) (h0 b1 b6 b7 b8 b9 b10 b11 b12 b13 b14 b15 b16 b17 b21 b22 b23 b24 b25 b26 b28 b29 b30 b31 b32 b33 b34 b35 b36 b46 b47 b48 b49 b50 b51 b52 b53 b54 b55 b56 b57 b58 b59 b60 b61 b62 b63 : Nat) (i0 i2 i3 i4 i5 i18 i19 i20 i27 i37 i38 i39 i40 i41 i42 i43 i44 i45 : Int32) (P : Nat → Int32) (v : Nat) (hv : v ≤ 10) : MetI l g yX12_everybody cX12_everybody 2 (some .int) 0 0 0 [.ref h0, .int (nI v)] [(h0, .inr (12, [.int i0, .ref b1, .int i2, .int i3, .int i4, .int i5, .ref b6, .ref b7, .ref b8, .ref b9, .ref b10, .ref b11, .ref b12, .ref b13, .ref b14, .ref b15, .ref b16, .ref b17, .int i18, .int i19, .int i20, .ref b21, .ref b22, .ref b23, .ref b24, .ref b25, .ref b26, .int i27, .ref b28, .ref b29, .ref b30, .ref b31, .ref b32, .ref b33, .ref b34, .ref b35, .ref b36, .int i37, .int i38, .int i39, .int i40, .int i41, .int i42, .int i43, .int i44, .int i45, .ref b46, .ref b47, .ref b48, .ref b49, .ref b50, .ref b51, .ref b52, .ref b53, .ref b54, .ref b55, .ref b56, .ref b57, .ref b58, .ref b59, .ref b60, .ref b61, .ref b62, .ref b63])), (b6, .inl (g.2.1 1, 11, .inl P))] (fun r u => r = evy (P v) ∧ u = [(h0, .inr (12, [.int i0, .ref b1, .int i2, .int i3, .int i4, .int i5, .ref b6, .ref b7, .ref b8, .ref b9, .ref b10, .ref b11, .ref b12, .ref b13, .ref b14, .ref b15, .ref b16, .ref b17, .int i18, .int i19, .int i20, .ref b21, .ref b22, .ref b23, .ref b24, .ref b25, .ref b26, .int i27, .ref b28, .ref b29, .ref b30, .ref b31, .ref b32, .ref b33, .ref b34, .ref b35, .ref b36, .int i37, .int i38, .int i39, .int i40, .int i41, .int i42, .int i43, .int i44, .int i45, .ref b46, .ref b47, .ref b48, .ref b49, .ref b50, .ref b51, .ref b52, .ref b53, .ref b54, .ref b55, .ref b56, .ref b57, .ref b58, .ref b59, .ref b60, .ref b61, .ref b62, .ref b63])), (b6, .inl (g.2.1 1, 11, .inl P))]) := by
  refine MetI.of (own := RX12) rfl (by decide) (Nat.le_of_ble_eq_true rfl) ?_
  intro p e s m below meth c A ls args Q hQ X hr hin hW hl
  have hx := X.1
  have hb := X.2.1
  have hl : lv_has ls 2 [(0, .ref h0), (1, .int (nI v))] := hl
  refine lv_iconst (v := 1) (pc := 0) hx hb dX12_everybody_0 (by decide) ?_
  refine lv_aload_n (pc := 1) hx hb dX12_everybody_1 rfl (lv_at hl 0 rfl) ?_
  refine r_get X hW 0 ciX12 6 rfl (by decide) m_1237 rfl rfl dX12_everybody_2 ?_
  refine lv_iload_n (pc := 5) hx hb dX12_everybody_5 rfl (lv_at hl 1 rfl) ?_
  refine r_iald X hW 1 rfl (vp_in_nI (by omega) (by decide)) dX12_everybody_6 ?_
  refine lv_topi (fun uv1 euv1 => ?_)
  obtain rfl : uv1 = P v := euv1.trans (by rw [nI_clamp (by omega)])
  refine lv_ishl (pc := 7) hx hb dX12_everybody_7 ?_
  refine lv_iconst (v := 1) (pc := 8) hx hb dX12_everybody_8 (by decide) ?_
  refine lv_isub (pc := 9) hx hb dX12_everybody_9 ?_
  refine lv_topi (fun uv2 euv2 => ?_)
  obtain rfl : uv2 = evy (P v) := euv2.trans (rfl)
  exact e_i X hQ hr hW (u := [(h0, .inr (12, [.int i0, .ref b1, .int i2, .int i3, .int i4, .int i5, .ref b6, .ref b7, .ref b8, .ref b9, .ref b10, .ref b11, .ref b12, .ref b13, .ref b14, .ref b15, .ref b16, .ref b17, .int i18, .int i19, .int i20, .ref b21, .ref b22, .ref b23, .ref b24, .ref b25, .ref b26, .int i27, .ref b28, .ref b29, .ref b30, .ref b31, .ref b32, .ref b33, .ref b34, .ref b35, .ref b36, .int i37, .int i38, .int i39, .int i40, .int i41, .int i42, .int i43, .int i44, .int i45, .ref b46, .ref b47, .ref b48, .ref b49, .ref b50, .ref b51, .ref b52, .ref b53, .ref b54, .ref b55, .ref b56, .ref b57, .ref b58, .ref b59, .ref b60, .ref b61, .ref b62, .ref b63])), (b6, .inl (g.2.1 1, 11, .inl P))]) [0, 1] rfl rfl (⟨rfl, rfl⟩) ⟨Nat.le_of_ble_eq_true rfl, Nat.le_of_ble_eq_true rfl⟩ dX12_everybody_10

set_option maxHeartbeats 4000000 in
set_option maxRecDepth 100000 in
theorem C_X12_joinsG (l : Launch) (g : GG) (h0 b1 b6 b7 b8 b9 b10 b11 b12 b13 b14 b15 b16 b17 b21 b22 b23 b24 b25 b26 b28 b29 b30 b31 b32 b33 b34 b35 b36 b46 b47 b48 b49 b50 b51 b52 b53 b54 b55 b56 b57 b58 b59 b60 b61 b62 b63 : Nat) (i0 i2 i3 i4 i5 i18 i19 i20 i27 i37 i38 i39 i40 i41 i42 i43 i44 i45 : Int32) (La Lb Lo : Nat → Int32) (k : Nat) (hk : k < 132) (x y : Int32) : MetI l g yX12_joins cX12_joins 4 (some .boolean) 0 0 0 [.ref h0, .int (nI k), .int x, .int y] [(h0, .inr (12, [.int i0, .ref b1, .int i2, .int i3, .int i4, .int i5, .ref b6, .ref b7, .ref b8, .ref b9, .ref b10, .ref b11, .ref b12, .ref b13, .ref b14, .ref b15, .ref b16, .ref b17, .int i18, .int i19, .int i20, .ref b21, .ref b22, .ref b23, .ref b24, .ref b25, .ref b26, .int i27, .ref b28, .ref b29, .ref b30, .ref b31, .ref b32, .ref b33, .ref b34, .ref b35, .ref b36, .int i37, .int i38, .int i39, .int i40, .int i41, .int i42, .int i43, .int i44, .int i45, .ref b46, .ref b47, .ref b48, .ref b49, .ref b50, .ref b51, .ref b52, .ref b53, .ref b54, .ref b55, .ref b56, .ref b57, .ref b58, .ref b59, .ref b60, .ref b61, .ref b62, .ref b63])), (b12, .inl (g.2.1 1, 132, .inl La)), (b13, .inl (g.2.1 1, 132, .inl Lb)), (b17, .inl (g.2.1 3, 132, .inl Lo))] (fun r u => r = jnv La Lb Lo k x y ∧ u = [(h0, .inr (12, [.int i0, .ref b1, .int i2, .int i3, .int i4, .int i5, .ref b6, .ref b7, .ref b8, .ref b9, .ref b10, .ref b11, .ref b12, .ref b13, .ref b14, .ref b15, .ref b16, .ref b17, .int i18, .int i19, .int i20, .ref b21, .ref b22, .ref b23, .ref b24, .ref b25, .ref b26, .int i27, .ref b28, .ref b29, .ref b30, .ref b31, .ref b32, .ref b33, .ref b34, .ref b35, .ref b36, .int i37, .int i38, .int i39, .int i40, .int i41, .int i42, .int i43, .int i44, .int i45, .ref b46, .ref b47, .ref b48, .ref b49, .ref b50, .ref b51, .ref b52, .ref b53, .ref b54, .ref b55, .ref b56, .ref b57, .ref b58, .ref b59, .ref b60, .ref b61, .ref b62, .ref b63])), (b12, .inl (g.2.1 1, 132, .inl La)), (b13, .inl (g.2.1 1, 132, .inl Lb)), (b17, .inl (g.2.1 3, 132, .inl Lo))]) := by
  refine MetI.of (own := RX12) rfl (by decide) (Nat.le_of_ble_eq_true rfl) ?_
  intro p e s m below meth c A ls args Q hQ X hr hin hW hl
  have hx := X.1
  have hb := X.2.1
  have hl : lv_has ls 4 [(0, .ref h0), (1, .int (nI k)), (2, .int x), (3, .int y)] := hl
  refine lv_aload_n (pc := 0) hx hb dX12_joins_0 rfl (lv_at hl 0 rfl) ?_
  refine r_get X hW 0 ciX12 12 rfl (by decide) m_1243 rfl rfl dX12_joins_1 ?_
  refine lv_iload_n (pc := 4) hx hb dX12_joins_4 rfl (lv_at hl 1 rfl) ?_
  refine r_iald X hW 1 rfl (vp_in_nI (by omega) (by decide)) dX12_joins_5 ?_
  refine lv_topi (fun uv1 euv1 => ?_)
  obtain rfl : uv1 = La k := euv1.trans (by rw [nI_clamp (by omega)])
  refine lv_iload_n (pc := 6) hx hb dX12_joins_6 rfl (lv_at hl 2 rfl) ?_
  refine lv_icmp_ne (tgt := 20) (pc := 7) hx hb dX12_joins_7 rfl (fun c2 => ?_) (fun c2 => ?_)
  · refine lv_aload_n (pc := 20) hx hb dX12_joins_20 rfl (lv_at hl 0 rfl) ?_
    refine r_get X hW 0 ciX12 17 rfl (by decide) m_1248 rfl rfl dX12_joins_21 ?_
    refine lv_iload_n (pc := 24) hx hb dX12_joins_24 rfl (lv_at hl 1 rfl) ?_
    refine r_zald X hW 3 rfl (vp_in_nI (by omega) (by decide)) dX12_joins_25 ?_
    refine lv_topi (fun uv3 euv3 => ?_)
    obtain rfl : uv3 = Lo k := euv3.trans (by rw [nI_clamp (by omega)])
    refine lv_if_ne (tgt := 53) (pc := 26) hx hb dX12_joins_26 rfl (fun c4 => ?_) (fun c4 => ?_)
    · refine lv_iconst (v := 0) (pc := 53) hx hb dX12_joins_53 (by decide) ?_
      exact e_z X hQ hr hW (u := [(h0, .inr (12, [.int i0, .ref b1, .int i2, .int i3, .int i4, .int i5, .ref b6, .ref b7, .ref b8, .ref b9, .ref b10, .ref b11, .ref b12, .ref b13, .ref b14, .ref b15, .ref b16, .ref b17, .int i18, .int i19, .int i20, .ref b21, .ref b22, .ref b23, .ref b24, .ref b25, .ref b26, .int i27, .ref b28, .ref b29, .ref b30, .ref b31, .ref b32, .ref b33, .ref b34, .ref b35, .ref b36, .int i37, .int i38, .int i39, .int i40, .int i41, .int i42, .int i43, .int i44, .int i45, .ref b46, .ref b47, .ref b48, .ref b49, .ref b50, .ref b51, .ref b52, .ref b53, .ref b54, .ref b55, .ref b56, .ref b57, .ref b58, .ref b59, .ref b60, .ref b61, .ref b62, .ref b63])), (b12, .inl (g.2.1 1, 132, .inl La)), (b13, .inl (g.2.1 1, 132, .inl Lb)), (b17, .inl (g.2.1 3, 132, .inl Lo))]) rfl [0, 1, 2, 3] rfl rfl (⟨by unfold jnv; (repeat' split) <;> first | rfl | contradiction, rfl⟩) ⟨Nat.le_of_ble_eq_true rfl, Nat.le_of_ble_eq_true rfl⟩ dX12_joins_54
    · refine lv_aload_n (pc := 29) hx hb dX12_joins_29 rfl (lv_at hl 0 rfl) ?_
      refine r_get X hW 0 ciX12 12 rfl (by decide) m_1243 rfl rfl dX12_joins_30 ?_
      refine lv_iload_n (pc := 33) hx hb dX12_joins_33 rfl (lv_at hl 1 rfl) ?_
      refine r_iald X hW 1 rfl (vp_in_nI (by omega) (by decide)) dX12_joins_34 ?_
      refine lv_topi (fun uv5 euv5 => ?_)
      obtain rfl : uv5 = La k := euv5.trans (by rw [nI_clamp (by omega)])
      refine lv_iload_n (pc := 35) hx hb dX12_joins_35 rfl (lv_at hl 3 rfl) ?_
      refine lv_icmp_ne (tgt := 53) (pc := 36) hx hb dX12_joins_36 rfl (fun c6 => ?_) (fun c6 => ?_)
      · refine lv_iconst (v := 0) (pc := 53) hx hb dX12_joins_53 (by decide) ?_
        exact e_z X hQ hr hW (u := [(h0, .inr (12, [.int i0, .ref b1, .int i2, .int i3, .int i4, .int i5, .ref b6, .ref b7, .ref b8, .ref b9, .ref b10, .ref b11, .ref b12, .ref b13, .ref b14, .ref b15, .ref b16, .ref b17, .int i18, .int i19, .int i20, .ref b21, .ref b22, .ref b23, .ref b24, .ref b25, .ref b26, .int i27, .ref b28, .ref b29, .ref b30, .ref b31, .ref b32, .ref b33, .ref b34, .ref b35, .ref b36, .int i37, .int i38, .int i39, .int i40, .int i41, .int i42, .int i43, .int i44, .int i45, .ref b46, .ref b47, .ref b48, .ref b49, .ref b50, .ref b51, .ref b52, .ref b53, .ref b54, .ref b55, .ref b56, .ref b57, .ref b58, .ref b59, .ref b60, .ref b61, .ref b62, .ref b63])), (b12, .inl (g.2.1 1, 132, .inl La)), (b13, .inl (g.2.1 1, 132, .inl Lb)), (b17, .inl (g.2.1 3, 132, .inl Lo))]) rfl [0, 1, 2, 3] rfl rfl (⟨by unfold jnv; (repeat' split) <;> first | rfl | contradiction, rfl⟩) ⟨Nat.le_of_ble_eq_true rfl, Nat.le_of_ble_eq_true rfl⟩ dX12_joins_54
      · refine lv_aload_n (pc := 39) hx hb dX12_joins_39 rfl (lv_at hl 0 rfl) ?_
        refine r_get X hW 0 ciX12 13 rfl (by decide) m_1244 rfl rfl dX12_joins_40 ?_
        refine lv_iload_n (pc := 43) hx hb dX12_joins_43 rfl (lv_at hl 1 rfl) ?_
        refine r_iald X hW 2 rfl (vp_in_nI (by omega) (by decide)) dX12_joins_44 ?_
        refine lv_topi (fun uv7 euv7 => ?_)
        obtain rfl : uv7 = Lb k := euv7.trans (by rw [nI_clamp (by omega)])
        refine lv_iload_n (pc := 45) hx hb dX12_joins_45 rfl (lv_at hl 2 rfl) ?_
        refine lv_icmp_ne (tgt := 53) (pc := 46) hx hb dX12_joins_46 rfl (fun c8 => ?_) (fun c8 => ?_)
        · refine lv_iconst (v := 0) (pc := 53) hx hb dX12_joins_53 (by decide) ?_
          exact e_z X hQ hr hW (u := [(h0, .inr (12, [.int i0, .ref b1, .int i2, .int i3, .int i4, .int i5, .ref b6, .ref b7, .ref b8, .ref b9, .ref b10, .ref b11, .ref b12, .ref b13, .ref b14, .ref b15, .ref b16, .ref b17, .int i18, .int i19, .int i20, .ref b21, .ref b22, .ref b23, .ref b24, .ref b25, .ref b26, .int i27, .ref b28, .ref b29, .ref b30, .ref b31, .ref b32, .ref b33, .ref b34, .ref b35, .ref b36, .int i37, .int i38, .int i39, .int i40, .int i41, .int i42, .int i43, .int i44, .int i45, .ref b46, .ref b47, .ref b48, .ref b49, .ref b50, .ref b51, .ref b52, .ref b53, .ref b54, .ref b55, .ref b56, .ref b57, .ref b58, .ref b59, .ref b60, .ref b61, .ref b62, .ref b63])), (b12, .inl (g.2.1 1, 132, .inl La)), (b13, .inl (g.2.1 1, 132, .inl Lb)), (b17, .inl (g.2.1 3, 132, .inl Lo))]) rfl [0, 1, 2, 3] rfl rfl (⟨by unfold jnv; (repeat' split) <;> first | rfl | contradiction, rfl⟩) ⟨Nat.le_of_ble_eq_true rfl, Nat.le_of_ble_eq_true rfl⟩ dX12_joins_54
        · refine lv_iconst (v := 1) (pc := 49) hx hb dX12_joins_49 (by decide) ?_
          refine lv_goto (tgt := 54) (pc := 50) hx hb dX12_joins_50 rfl ?_
          exact e_z X hQ hr hW (u := [(h0, .inr (12, [.int i0, .ref b1, .int i2, .int i3, .int i4, .int i5, .ref b6, .ref b7, .ref b8, .ref b9, .ref b10, .ref b11, .ref b12, .ref b13, .ref b14, .ref b15, .ref b16, .ref b17, .int i18, .int i19, .int i20, .ref b21, .ref b22, .ref b23, .ref b24, .ref b25, .ref b26, .int i27, .ref b28, .ref b29, .ref b30, .ref b31, .ref b32, .ref b33, .ref b34, .ref b35, .ref b36, .int i37, .int i38, .int i39, .int i40, .int i41, .int i42, .int i43, .int i44, .int i45, .ref b46, .ref b47, .ref b48, .ref b49, .ref b50, .ref b51, .ref b52, .ref b53, .ref b54, .ref b55, .ref b56, .ref b57, .ref b58, .ref b59, .ref b60, .ref b61, .ref b62, .ref b63])), (b12, .inl (g.2.1 1, 132, .inl La)), (b13, .inl (g.2.1 1, 132, .inl Lb)), (b17, .inl (g.2.1 3, 132, .inl Lo))]) rfl [0, 1, 2, 3] rfl rfl (⟨by unfold jnv; (repeat' split) <;> first | rfl | contradiction, rfl⟩) ⟨Nat.le_of_ble_eq_true rfl, Nat.le_of_ble_eq_true rfl⟩ dX12_joins_54
  · refine lv_aload_n (pc := 10) hx hb dX12_joins_10 rfl (lv_at hl 0 rfl) ?_
    refine r_get X hW 0 ciX12 13 rfl (by decide) m_1244 rfl rfl dX12_joins_11 ?_
    refine lv_iload_n (pc := 14) hx hb dX12_joins_14 rfl (lv_at hl 1 rfl) ?_
    refine r_iald X hW 2 rfl (vp_in_nI (by omega) (by decide)) dX12_joins_15 ?_
    refine lv_topi (fun uv9 euv9 => ?_)
    obtain rfl : uv9 = Lb k := euv9.trans (by rw [nI_clamp (by omega)])
    refine lv_iload_n (pc := 16) hx hb dX12_joins_16 rfl (lv_at hl 3 rfl) ?_
    refine lv_icmp_eq (tgt := 49) (pc := 17) hx hb dX12_joins_17 rfl (fun c10 => ?_) (fun c10 => ?_)
    · refine lv_iconst (v := 1) (pc := 49) hx hb dX12_joins_49 (by decide) ?_
      refine lv_goto (tgt := 54) (pc := 50) hx hb dX12_joins_50 rfl ?_
      exact e_z X hQ hr hW (u := [(h0, .inr (12, [.int i0, .ref b1, .int i2, .int i3, .int i4, .int i5, .ref b6, .ref b7, .ref b8, .ref b9, .ref b10, .ref b11, .ref b12, .ref b13, .ref b14, .ref b15, .ref b16, .ref b17, .int i18, .int i19, .int i20, .ref b21, .ref b22, .ref b23, .ref b24, .ref b25, .ref b26, .int i27, .ref b28, .ref b29, .ref b30, .ref b31, .ref b32, .ref b33, .ref b34, .ref b35, .ref b36, .int i37, .int i38, .int i39, .int i40, .int i41, .int i42, .int i43, .int i44, .int i45, .ref b46, .ref b47, .ref b48, .ref b49, .ref b50, .ref b51, .ref b52, .ref b53, .ref b54, .ref b55, .ref b56, .ref b57, .ref b58, .ref b59, .ref b60, .ref b61, .ref b62, .ref b63])), (b12, .inl (g.2.1 1, 132, .inl La)), (b13, .inl (g.2.1 1, 132, .inl Lb)), (b17, .inl (g.2.1 3, 132, .inl Lo))]) rfl [0, 1, 2, 3] rfl rfl (⟨by unfold jnv; (repeat' split) <;> first | rfl | contradiction, rfl⟩) ⟨Nat.le_of_ble_eq_true rfl, Nat.le_of_ble_eq_true rfl⟩ dX12_joins_54
    · refine lv_aload_n (pc := 20) hx hb dX12_joins_20 rfl (lv_at hl 0 rfl) ?_
      refine r_get X hW 0 ciX12 17 rfl (by decide) m_1248 rfl rfl dX12_joins_21 ?_
      refine lv_iload_n (pc := 24) hx hb dX12_joins_24 rfl (lv_at hl 1 rfl) ?_
      refine r_zald X hW 3 rfl (vp_in_nI (by omega) (by decide)) dX12_joins_25 ?_
      refine lv_topi (fun uv11 euv11 => ?_)
      obtain rfl : uv11 = Lo k := euv11.trans (by rw [nI_clamp (by omega)])
      refine lv_if_ne (tgt := 53) (pc := 26) hx hb dX12_joins_26 rfl (fun c12 => ?_) (fun c12 => ?_)
      · refine lv_iconst (v := 0) (pc := 53) hx hb dX12_joins_53 (by decide) ?_
        exact e_z X hQ hr hW (u := [(h0, .inr (12, [.int i0, .ref b1, .int i2, .int i3, .int i4, .int i5, .ref b6, .ref b7, .ref b8, .ref b9, .ref b10, .ref b11, .ref b12, .ref b13, .ref b14, .ref b15, .ref b16, .ref b17, .int i18, .int i19, .int i20, .ref b21, .ref b22, .ref b23, .ref b24, .ref b25, .ref b26, .int i27, .ref b28, .ref b29, .ref b30, .ref b31, .ref b32, .ref b33, .ref b34, .ref b35, .ref b36, .int i37, .int i38, .int i39, .int i40, .int i41, .int i42, .int i43, .int i44, .int i45, .ref b46, .ref b47, .ref b48, .ref b49, .ref b50, .ref b51, .ref b52, .ref b53, .ref b54, .ref b55, .ref b56, .ref b57, .ref b58, .ref b59, .ref b60, .ref b61, .ref b62, .ref b63])), (b12, .inl (g.2.1 1, 132, .inl La)), (b13, .inl (g.2.1 1, 132, .inl Lb)), (b17, .inl (g.2.1 3, 132, .inl Lo))]) rfl [0, 1, 2, 3] rfl rfl (⟨by unfold jnv; (repeat' split) <;> first | rfl | contradiction, rfl⟩) ⟨Nat.le_of_ble_eq_true rfl, Nat.le_of_ble_eq_true rfl⟩ dX12_joins_54
      · refine lv_aload_n (pc := 29) hx hb dX12_joins_29 rfl (lv_at hl 0 rfl) ?_
        refine r_get X hW 0 ciX12 12 rfl (by decide) m_1243 rfl rfl dX12_joins_30 ?_
        refine lv_iload_n (pc := 33) hx hb dX12_joins_33 rfl (lv_at hl 1 rfl) ?_
        refine r_iald X hW 1 rfl (vp_in_nI (by omega) (by decide)) dX12_joins_34 ?_
        refine lv_topi (fun uv13 euv13 => ?_)
        obtain rfl : uv13 = La k := euv13.trans (by rw [nI_clamp (by omega)])
        refine lv_iload_n (pc := 35) hx hb dX12_joins_35 rfl (lv_at hl 3 rfl) ?_
        refine lv_icmp_ne (tgt := 53) (pc := 36) hx hb dX12_joins_36 rfl (fun c14 => ?_) (fun c14 => ?_)
        · refine lv_iconst (v := 0) (pc := 53) hx hb dX12_joins_53 (by decide) ?_
          exact e_z X hQ hr hW (u := [(h0, .inr (12, [.int i0, .ref b1, .int i2, .int i3, .int i4, .int i5, .ref b6, .ref b7, .ref b8, .ref b9, .ref b10, .ref b11, .ref b12, .ref b13, .ref b14, .ref b15, .ref b16, .ref b17, .int i18, .int i19, .int i20, .ref b21, .ref b22, .ref b23, .ref b24, .ref b25, .ref b26, .int i27, .ref b28, .ref b29, .ref b30, .ref b31, .ref b32, .ref b33, .ref b34, .ref b35, .ref b36, .int i37, .int i38, .int i39, .int i40, .int i41, .int i42, .int i43, .int i44, .int i45, .ref b46, .ref b47, .ref b48, .ref b49, .ref b50, .ref b51, .ref b52, .ref b53, .ref b54, .ref b55, .ref b56, .ref b57, .ref b58, .ref b59, .ref b60, .ref b61, .ref b62, .ref b63])), (b12, .inl (g.2.1 1, 132, .inl La)), (b13, .inl (g.2.1 1, 132, .inl Lb)), (b17, .inl (g.2.1 3, 132, .inl Lo))]) rfl [0, 1, 2, 3] rfl rfl (⟨by unfold jnv; (repeat' split) <;> first | rfl | contradiction, rfl⟩) ⟨Nat.le_of_ble_eq_true rfl, Nat.le_of_ble_eq_true rfl⟩ dX12_joins_54
        · refine lv_aload_n (pc := 39) hx hb dX12_joins_39 rfl (lv_at hl 0 rfl) ?_
          refine r_get X hW 0 ciX12 13 rfl (by decide) m_1244 rfl rfl dX12_joins_40 ?_
          refine lv_iload_n (pc := 43) hx hb dX12_joins_43 rfl (lv_at hl 1 rfl) ?_
          refine r_iald X hW 2 rfl (vp_in_nI (by omega) (by decide)) dX12_joins_44 ?_
          refine lv_topi (fun uv15 euv15 => ?_)
          obtain rfl : uv15 = Lb k := euv15.trans (by rw [nI_clamp (by omega)])
          refine lv_iload_n (pc := 45) hx hb dX12_joins_45 rfl (lv_at hl 2 rfl) ?_
          refine lv_icmp_ne (tgt := 53) (pc := 46) hx hb dX12_joins_46 rfl (fun c16 => ?_) (fun c16 => ?_)
          · refine lv_iconst (v := 0) (pc := 53) hx hb dX12_joins_53 (by decide) ?_
            exact e_z X hQ hr hW (u := [(h0, .inr (12, [.int i0, .ref b1, .int i2, .int i3, .int i4, .int i5, .ref b6, .ref b7, .ref b8, .ref b9, .ref b10, .ref b11, .ref b12, .ref b13, .ref b14, .ref b15, .ref b16, .ref b17, .int i18, .int i19, .int i20, .ref b21, .ref b22, .ref b23, .ref b24, .ref b25, .ref b26, .int i27, .ref b28, .ref b29, .ref b30, .ref b31, .ref b32, .ref b33, .ref b34, .ref b35, .ref b36, .int i37, .int i38, .int i39, .int i40, .int i41, .int i42, .int i43, .int i44, .int i45, .ref b46, .ref b47, .ref b48, .ref b49, .ref b50, .ref b51, .ref b52, .ref b53, .ref b54, .ref b55, .ref b56, .ref b57, .ref b58, .ref b59, .ref b60, .ref b61, .ref b62, .ref b63])), (b12, .inl (g.2.1 1, 132, .inl La)), (b13, .inl (g.2.1 1, 132, .inl Lb)), (b17, .inl (g.2.1 3, 132, .inl Lo))]) rfl [0, 1, 2, 3] rfl rfl (⟨by unfold jnv; (repeat' split) <;> first | rfl | contradiction, rfl⟩) ⟨Nat.le_of_ble_eq_true rfl, Nat.le_of_ble_eq_true rfl⟩ dX12_joins_54
          · refine lv_iconst (v := 1) (pc := 49) hx hb dX12_joins_49 (by decide) ?_
            refine lv_goto (tgt := 54) (pc := 50) hx hb dX12_joins_50 rfl ?_
            exact e_z X hQ hr hW (u := [(h0, .inr (12, [.int i0, .ref b1, .int i2, .int i3, .int i4, .int i5, .ref b6, .ref b7, .ref b8, .ref b9, .ref b10, .ref b11, .ref b12, .ref b13, .ref b14, .ref b15, .ref b16, .ref b17, .int i18, .int i19, .int i20, .ref b21, .ref b22, .ref b23, .ref b24, .ref b25, .ref b26, .int i27, .ref b28, .ref b29, .ref b30, .ref b31, .ref b32, .ref b33, .ref b34, .ref b35, .ref b36, .int i37, .int i38, .int i39, .int i40, .int i41, .int i42, .int i43, .int i44, .int i45, .ref b46, .ref b47, .ref b48, .ref b49, .ref b50, .ref b51, .ref b52, .ref b53, .ref b54, .ref b55, .ref b56, .ref b57, .ref b58, .ref b59, .ref b60, .ref b61, .ref b62, .ref b63])), (b12, .inl (g.2.1 1, 132, .inl La)), (b13, .inl (g.2.1 1, 132, .inl Lb)), (b17, .inl (g.2.1 3, 132, .inl Lo))]) rfl [0, 1, 2, 3] rfl rfl (⟨by unfold jnv; (repeat' split) <;> first | rfl | contradiction, rfl⟩) ⟨Nat.le_of_ble_eq_true rfl, Nat.le_of_ble_eq_true rfl⟩ dX12_joins_54

set_option maxHeartbeats 4000000 in
set_option maxRecDepth 100000 in
theorem C_X12_holdsAllG (l : Launch) (g : GG) (h0 b1 b6 b7 b8 b9 b10 b11 b12 b13 b14 b15 b16 b17 b21 b22 b23 b24 b25 b26 b28 b29 b30 b31 b32 b33 b34 b35 b36 b46 b47 b48 b49 b50 b51 b52 b53 b54 b55 b56 b57 b58 b59 b60 b61 b62 b63 : Nat) (i0 i2 i3 i4 i5 i18 i19 i20 i27 i37 i38 i39 i40 i41 i42 i43 i44 i45 : Int32) (P Lc La Lb Lo : Nat → Int32) (v lc pp : Nat) (hv : v ≤ 10) (hlc : lc ≤ 12) (hpp : pp ≤ 7) (hP : P v = nI pp) (hLc : Lc v = nI lc) (hLA : in6 La) (hLB : in6 Lb) : MetI l g yX12_holdsAll cX12_holdsAll 6 (some .boolean) 1 0 0 [.ref h0, .int (nI v)] [(h0, .inr (12, [.int i0, .ref b1, .int i2, .int i3, .int i4, .int i5, .ref b6, .ref b7, .ref b8, .ref b9, .ref b10, .ref b11, .ref b12, .ref b13, .ref b14, .ref b15, .ref b16, .ref b17, .int i18, .int i19, .int i20, .ref b21, .ref b22, .ref b23, .ref b24, .ref b25, .ref b26, .int i27, .ref b28, .ref b29, .ref b30, .ref b31, .ref b32, .ref b33, .ref b34, .ref b35, .ref b36, .int i37, .int i38, .int i39, .int i40, .int i41, .int i42, .int i43, .int i44, .int i45, .ref b46, .ref b47, .ref b48, .ref b49, .ref b50, .ref b51, .ref b52, .ref b53, .ref b54, .ref b55, .ref b56, .ref b57, .ref b58, .ref b59, .ref b60, .ref b61, .ref b62, .ref b63])), (b6, .inl (g.2.1 1, 11, .inl P)), (b7, .inl (g.2.1 1, 11, .inl Lc)), (b12, .inl (g.2.1 1, 132, .inl La)), (b13, .inl (g.2.1 1, 132, .inl Lb)), (b17, .inl (g.2.1 3, 132, .inl Lo))] (fun r u => (r = 0 ∨ r = 1) ∧ (r = 1 → 1 ≤ pp ∧ ∀ S : Nat → Prop, rclo La Lb Lo v lc pp S → ∀ o : Nat, o < pp → S o) ∧ u = [(h0, .inr (12, [.int i0, .ref b1, .int i2, .int i3, .int i4, .int i5, .ref b6, .ref b7, .ref b8, .ref b9, .ref b10, .ref b11, .ref b12, .ref b13, .ref b14, .ref b15, .ref b16, .ref b17, .int i18, .int i19, .int i20, .ref b21, .ref b22, .ref b23, .ref b24, .ref b25, .ref b26, .int i27, .ref b28, .ref b29, .ref b30, .ref b31, .ref b32, .ref b33, .ref b34, .ref b35, .ref b36, .int i37, .int i38, .int i39, .int i40, .int i41, .int i42, .int i43, .int i44, .int i45, .ref b46, .ref b47, .ref b48, .ref b49, .ref b50, .ref b51, .ref b52, .ref b53, .ref b54, .ref b55, .ref b56, .ref b57, .ref b58, .ref b59, .ref b60, .ref b61, .ref b62, .ref b63])), (b6, .inl (g.2.1 1, 11, .inl P)), (b7, .inl (g.2.1 1, 11, .inl Lc)), (b12, .inl (g.2.1 1, 132, .inl La)), (b13, .inl (g.2.1 1, 132, .inl Lb)), (b17, .inl (g.2.1 3, 132, .inl Lo))]) := by
  refine MetI.of (own := RX12) rfl (by decide) (Nat.le_of_ble_eq_true rfl) ?_
  intro p e s m below meth c A ls args Q hQ X hr hin hW hl
  have hx := X.1
  have hb := X.2.1
  have hl : lv_has ls 6 [(0, .ref h0), (1, .int (nI v))] := hl
  refine lv_iconst (v := 1) (pc := 0) hx hb dX12_holdsAll_0 (by decide) ?_
  refine lv_istore_n (lv' := [(2, .int 1), (0, .ref h0), (1, .int (nI v))]) (pc := 1) hx hb dX12_holdsAll_1 rfl hl (by decide) rfl (fun ls hl => ?_)
  refine lv_iconst (v := 0) (pc := 2) hx hb dX12_holdsAll_2 (by decide) ?_
  refine lv_istore_n (lv' := [(3, .int 0), (2, .int 1), (0, .ref h0), (1, .int (nI v))]) (pc := 3) hx hb dX12_holdsAll_3 rfl hl (by decide) rfl (fun ls hl => ?_)
  have loop1 : ∀ (fu : Nat) (t : Nat) (bi : Int32), (7 < fu + t) → (t ≤ 7) → (hbit La Lb Lo v lc pp bi) → ∀ (H : Heap) (locs : List Loc) (ls : Array Slot), WD g A s H locs [(h0, .inr (12, [.int i0, .ref b1, .int i2, .int i3, .int i4, .int i5, .ref b6, .ref b7, .ref b8, .ref b9, .ref b10, .ref b11, .ref b12, .ref b13, .ref b14, .ref b15, .ref b16, .ref b17, .int i18, .int i19, .int i20, .ref b21, .ref b22, .ref b23, .ref b24, .ref b25, .ref b26, .int i27, .ref b28, .ref b29, .ref b30, .ref b31, .ref b32, .ref b33, .ref b34, .ref b35, .ref b36, .int i37, .int i38, .int i39, .int i40, .int i41, .int i42, .int i43, .int i44, .int i45, .ref b46, .ref b47, .ref b48, .ref b49, .ref b50, .ref b51, .ref b52, .ref b53, .ref b54, .ref b55, .ref b56, .ref b57, .ref b58, .ref b59, .ref b60, .ref b61, .ref b62, .ref b63])), (b6, .inl (g.2.1 1, 11, .inl P)), (b7, .inl (g.2.1 1, 11, .inl Lc)), (b12, .inl (g.2.1 1, 132, .inl La)), (b13, .inl (g.2.1 1, 132, .inl Lb)), (b17, .inl (g.2.1 3, 132, .inl Lo))] → lv_has ls 6 [(0, .ref h0), (1, .int (nI v)), (2, .int bi), (3, .int (nI t))] → W p l e (RM 1 0 0) s m args below meth c H locs 0 0 Q (F0 m 4 ls []) := by
    intro fu
    induction fu with
    | zero =>
      intro t bi hm ht hbi
      exact absurd hm (by omega)
    | succ fu ih1 =>
      intro t bi hm ht hbi H locs ls hW hl
      refine lv_iload_n (pc := 4) hx hb dX12_holdsAll_4 rfl (lv_at hl 3 rfl) ?_
      refine lv_bipush (v := 7) (pc := 5) hx hb dX12_holdsAll_5 (by decide) ?_
      refine lv_icmp_ge (tgt := 104) (pc := 7) hx hb dX12_holdsAll_7 rfl (fun c1 => ?_) (fun c1 => ?_)
      · refine lv_iload_n (pc := 104) hx hb dX12_holdsAll_104 rfl (lv_at hl 2 rfl) ?_
        refine lv_aload_n (pc := 105) hx hb dX12_holdsAll_105 rfl (lv_at hl 0 rfl) ?_
        refine lv_iload_n (pc := 106) hx hb dX12_holdsAll_106 rfl (lv_at hl 1 rfl) ?_
        refine c_Vi (pc := 107) (As := [.int (nI v)]) (rest := [.int bi]) (wr := [(b7, .inl (g.2.1 1, 11, .inl Lc)), (b12, .inl (g.2.1 1, 132, .inl La)), (b13, .inl (g.2.1 1, 132, .inl Lb)), (b17, .inl (g.2.1 3, 132, .inl Lo))]) X hW 0 ciX12 rfl (C_X12_everybodyG l g h0 b1 b6 b7 b8 b9 b10 b11 b12 b13 b14 b15 b16 b17 b21 b22 b23 b24 b25 b26 b28 b29 b30 b31 b32 b33 b34 b35 b36 b46 b47 b48 b49 b50 b51 b52 b53 b54 b55 b56 b57 b58 b59 b60 b61 b62 b63 i0 i2 i3 i4 i5 i18 i19 i20 i27 i37 i38 i39 i40 i41 i42 i43 i44 i45 P v (by omega)) vX12_274 [0, 1] [2, 3, 4, 5] rfl rfl rfl rfl rfl rfl hl.1 rfl (Nat.le_of_ble_eq_true rfl) ⟨Nat.le_of_ble_eq_true rfl, Nat.le_of_ble_eq_true rfl⟩ ⟨Nat.le_of_ble_eq_true rfl, Nat.le_of_ble_eq_true rfl⟩ dX12_holdsAll_107 (fun r2 u9 H locs hq hW => ?_)
        obtain ⟨rfl, rfl⟩ := hq
        have hW : WD g A s _ _ [(b7, .inl (g.2.1 1, 11, .inl Lc)), (b12, .inl (g.2.1 1, 132, .inl La)), (b13, .inl (g.2.1 1, 132, .inl Lb)), (b17, .inl (g.2.1 3, 132, .inl Lo)), (h0, .inr (12, [.int i0, .ref b1, .int i2, .int i3, .int i4, .int i5, .ref b6, .ref b7, .ref b8, .ref b9, .ref b10, .ref b11, .ref b12, .ref b13, .ref b14, .ref b15, .ref b16, .ref b17, .int i18, .int i19, .int i20, .ref b21, .ref b22, .ref b23, .ref b24, .ref b25, .ref b26, .int i27, .ref b28, .ref b29, .ref b30, .ref b31, .ref b32, .ref b33, .ref b34, .ref b35, .ref b36, .int i37, .int i38, .int i39, .int i40, .int i41, .int i42, .int i43, .int i44, .int i45, .ref b46, .ref b47, .ref b48, .ref b49, .ref b50, .ref b51, .ref b52, .ref b53, .ref b54, .ref b55, .ref b56, .ref b57, .ref b58, .ref b59, .ref b60, .ref b61, .ref b62, .ref b63])), (b6, .inl (g.2.1 1, 11, .inl P))] := hW
        refine lv_icmp_ne (tgt := 117) (pc := 110) hx hb dX12_holdsAll_110 rfl (fun c3 => ?_) (fun c3 => ?_)
        · refine lv_iconst (v := 0) (pc := 117) hx hb dX12_holdsAll_117 (by decide) ?_
          exact e_z X hQ hr hW (u := [(h0, .inr (12, [.int i0, .ref b1, .int i2, .int i3, .int i4, .int i5, .ref b6, .ref b7, .ref b8, .ref b9, .ref b10, .ref b11, .ref b12, .ref b13, .ref b14, .ref b15, .ref b16, .ref b17, .int i18, .int i19, .int i20, .ref b21, .ref b22, .ref b23, .ref b24, .ref b25, .ref b26, .int i27, .ref b28, .ref b29, .ref b30, .ref b31, .ref b32, .ref b33, .ref b34, .ref b35, .ref b36, .int i37, .int i38, .int i39, .int i40, .int i41, .int i42, .int i43, .int i44, .int i45, .ref b46, .ref b47, .ref b48, .ref b49, .ref b50, .ref b51, .ref b52, .ref b53, .ref b54, .ref b55, .ref b56, .ref b57, .ref b58, .ref b59, .ref b60, .ref b61, .ref b62, .ref b63])), (b6, .inl (g.2.1 1, 11, .inl P)), (b7, .inl (g.2.1 1, 11, .inl Lc)), (b12, .inl (g.2.1 1, 132, .inl La)), (b13, .inl (g.2.1 1, 132, .inl Lb)), (b17, .inl (g.2.1 3, 132, .inl Lo))]) rfl [4, 5, 0, 1, 2, 3] rfl rfl (⟨Or.inl rfl, fun q => absurd q (by decide), rfl⟩) ⟨Nat.le_of_ble_eq_true rfl, Nat.le_of_ble_eq_true rfl⟩ dX12_holdsAll_118
        · refine lv_iconst (v := 1) (pc := 113) hx hb dX12_holdsAll_113 (by decide) ?_
          refine lv_goto (tgt := 118) (pc := 114) hx hb dX12_holdsAll_114 rfl ?_
          exact e_z X hQ hr hW (u := [(h0, .inr (12, [.int i0, .ref b1, .int i2, .int i3, .int i4, .int i5, .ref b6, .ref b7, .ref b8, .ref b9, .ref b10, .ref b11, .ref b12, .ref b13, .ref b14, .ref b15, .ref b16, .ref b17, .int i18, .int i19, .int i20, .ref b21, .ref b22, .ref b23, .ref b24, .ref b25, .ref b26, .int i27, .ref b28, .ref b29, .ref b30, .ref b31, .ref b32, .ref b33, .ref b34, .ref b35, .ref b36, .int i37, .int i38, .int i39, .int i40, .int i41, .int i42, .int i43, .int i44, .int i45, .ref b46, .ref b47, .ref b48, .ref b49, .ref b50, .ref b51, .ref b52, .ref b53, .ref b54, .ref b55, .ref b56, .ref b57, .ref b58, .ref b59, .ref b60, .ref b61, .ref b62, .ref b63])), (b6, .inl (g.2.1 1, 11, .inl P)), (b7, .inl (g.2.1 1, 11, .inl Lc)), (b12, .inl (g.2.1 1, 132, .inl La)), (b13, .inl (g.2.1 1, 132, .inl Lb)), (b17, .inl (g.2.1 3, 132, .inl Lo))]) rfl [4, 5, 0, 1, 2, 3] rfl rfl (⟨Or.inr rfl, fun _ => hbit_e hbi hpp (c3.trans (by rw [hP])), rfl⟩) ⟨Nat.le_of_ble_eq_true rfl, Nat.le_of_ble_eq_true rfl⟩ dX12_holdsAll_118
      · have ht7 : t < 7 := ge_f (by omega) (by decide) c1
        refine lv_iconst (v := 0) (pc := 10) hx hb dX12_holdsAll_10 (by decide) ?_
        refine lv_istore (lv' := [(4, .int 0), (0, .ref h0), (1, .int (nI v)), (2, .int bi), (3, .int (nI t))]) (pc := 11) hx hb dX12_holdsAll_11 hl (by decide) rfl (fun ls hl => ?_)
        have loop2 : ∀ (fv : Nat) (i : Nat) (bi : Int32), (lc < fv + i) → (i ≤ lc) → (hbit La Lb Lo v lc pp bi) → ∀ (H : Heap) (locs : List Loc) (ls : Array Slot), WD g A s H locs [(h0, .inr (12, [.int i0, .ref b1, .int i2, .int i3, .int i4, .int i5, .ref b6, .ref b7, .ref b8, .ref b9, .ref b10, .ref b11, .ref b12, .ref b13, .ref b14, .ref b15, .ref b16, .ref b17, .int i18, .int i19, .int i20, .ref b21, .ref b22, .ref b23, .ref b24, .ref b25, .ref b26, .int i27, .ref b28, .ref b29, .ref b30, .ref b31, .ref b32, .ref b33, .ref b34, .ref b35, .ref b36, .int i37, .int i38, .int i39, .int i40, .int i41, .int i42, .int i43, .int i44, .int i45, .ref b46, .ref b47, .ref b48, .ref b49, .ref b50, .ref b51, .ref b52, .ref b53, .ref b54, .ref b55, .ref b56, .ref b57, .ref b58, .ref b59, .ref b60, .ref b61, .ref b62, .ref b63])), (b6, .inl (g.2.1 1, 11, .inl P)), (b7, .inl (g.2.1 1, 11, .inl Lc)), (b12, .inl (g.2.1 1, 132, .inl La)), (b13, .inl (g.2.1 1, 132, .inl Lb)), (b17, .inl (g.2.1 3, 132, .inl Lo))] → lv_has ls 6 [(0, .ref h0), (1, .int (nI v)), (2, .int bi), (3, .int (nI t)), (4, .int (nI i))] → W p l e (RM 1 0 0) s m args below meth c H locs 0 0 Q (F0 m 13 ls []) := by
          intro fv
          induction fv with
          | zero =>
            intro i bi hm2 hi hbi
            exact absurd hm2 (by omega)
          | succ fv ih2 =>
            intro i bi hm2 hi hbi H locs ls hW hl
            refine lv_iload (pc := 13) hx hb dX12_holdsAll_13 (lv_at hl 4 rfl) ?_
            refine lv_aload_n (pc := 15) hx hb dX12_holdsAll_15 rfl (lv_at hl 0 rfl) ?_
            refine r_get X hW 0 ciX12 7 rfl (by decide) m_1238 rfl rfl dX12_holdsAll_16 ?_
            refine lv_iload_n (pc := 19) hx hb dX12_holdsAll_19 rfl (lv_at hl 1 rfl) ?_
            refine r_iald X hW 2 rfl (vp_in_nI (by omega) (by decide)) dX12_holdsAll_20 ?_
            refine lv_topi (fun uv4 euv4 => ?_)
            obtain rfl : uv4 = nI lc := euv4.trans (by rw [nI_clamp (by omega)]; exact hLc)
            refine lv_icmp_ge (tgt := 98) (pc := 21) hx hb dX12_holdsAll_21 rfl (fun c5 => ?_) (fun c5 => ?_)
            · refine lv_iinc (v := nI (t + 1)) (lv' := [(3, .int (nI (t + 1))), (0, .ref h0), (1, .int (nI v)), (2, .int bi), (4, .int (nI i))]) (pc := 98) hx hb dX12_holdsAll_98 hl (k := 3) rfl ((nI_succ t).symm) (by decide) rfl (fun ls hl => ?_)
              refine lv_goto (tgt := 4) (pc := 101) hx hb dX12_holdsAll_101 rfl ?_
              have hW : WD g A s _ _ [(h0, .inr (12, [.int i0, .ref b1, .int i2, .int i3, .int i4, .int i5, .ref b6, .ref b7, .ref b8, .ref b9, .ref b10, .ref b11, .ref b12, .ref b13, .ref b14, .ref b15, .ref b16, .ref b17, .int i18, .int i19, .int i20, .ref b21, .ref b22, .ref b23, .ref b24, .ref b25, .ref b26, .int i27, .ref b28, .ref b29, .ref b30, .ref b31, .ref b32, .ref b33, .ref b34, .ref b35, .ref b36, .int i37, .int i38, .int i39, .int i40, .int i41, .int i42, .int i43, .int i44, .int i45, .ref b46, .ref b47, .ref b48, .ref b49, .ref b50, .ref b51, .ref b52, .ref b53, .ref b54, .ref b55, .ref b56, .ref b57, .ref b58, .ref b59, .ref b60, .ref b61, .ref b62, .ref b63])), (b6, .inl (g.2.1 1, 11, .inl P)), (b7, .inl (g.2.1 1, 11, .inl Lc)), (b12, .inl (g.2.1 1, 132, .inl La)), (b13, .inl (g.2.1 1, 132, .inl Lb)), (b17, .inl (g.2.1 3, 132, .inl Lo))] := hW.pick [0, 1, 2, 3, 4, 5] rfl rfl
              exact ih1 (t + 1) bi (by omega) (by omega) hbi _ _ _ hW (lv_sub hl [1, 2, 3, 0] rfl)
            · have hil : i < lc := ge_f (by omega) (by omega) c5
              obtain ⟨ea, hea, eA⟩ := hLA (12 * v + i) (by omega)
              obtain ⟨eb, heb, eB⟩ := hLB (12 * v + i) (by omega)
              refine lv_bipush (v := 12) (pc := 24) hx hb dX12_holdsAll_24 (by decide) ?_
              refine lv_iload_n (pc := 26) hx hb dX12_holdsAll_26 rfl (lv_at hl 1 rfl) ?_
              refine lv_imul (pc := 27) hx hb dX12_holdsAll_27 ?_
              refine lv_topi (fun uv6 euv6 => ?_)
              obtain rfl : uv6 = nI (12 * v) := euv6.trans (pk_mul _ _)
              refine lv_iload (pc := 28) hx hb dX12_holdsAll_28 (lv_at hl 4 rfl) ?_
              refine lv_iadd (pc := 30) hx hb dX12_holdsAll_30 ?_
              refine lv_topi (fun uv7 euv7 => ?_)
              obtain rfl : uv7 = nI (12 * v + i) := euv7.trans (nI_add _ _)
              refine lv_istore (lv' := [(5, .int (nI (12 * v + i))), (0, .ref h0), (1, .int (nI v)), (2, .int bi), (3, .int (nI t)), (4, .int (nI i))]) (pc := 31) hx hb dX12_holdsAll_31 hl (by decide) rfl (fun ls hl => ?_)
              refine lv_aload_n (pc := 33) hx hb dX12_holdsAll_33 rfl (lv_at hl 1 rfl) ?_
              refine r_get X hW 0 ciX12 17 rfl (by decide) m_1248 rfl rfl dX12_holdsAll_34 ?_
              refine lv_iload (pc := 37) hx hb dX12_holdsAll_37 (lv_at hl 0 rfl) ?_
              refine r_zald X hW 5 rfl (vp_in_nI (by omega) (by decide)) dX12_holdsAll_39 ?_
              refine lv_topi (fun uv8 euv8 => ?_)
              obtain rfl : uv8 = Lo (12 * v + i) := euv8.trans (by rw [nI_clamp (by omega)])
              refine lv_if_ne (tgt := 92) (pc := 40) hx hb dX12_holdsAll_40 rfl (fun c9 => ?_) (fun c9 => ?_)
              · refine lv_iinc (v := nI (i + 1)) (lv' := [(4, .int (nI (i + 1))), (5, .int (nI (12 * v + i))), (0, .ref h0), (1, .int (nI v)), (2, .int bi), (3, .int (nI t))]) (pc := 92) hx hb dX12_holdsAll_92 hl (k := 5) rfl ((nI_succ i).symm) (by decide) rfl (fun ls hl => ?_)
                refine lv_goto (tgt := 13) (pc := 95) hx hb dX12_holdsAll_95 rfl ?_
                have hW : WD g A s _ _ [(h0, .inr (12, [.int i0, .ref b1, .int i2, .int i3, .int i4, .int i5, .ref b6, .ref b7, .ref b8, .ref b9, .ref b10, .ref b11, .ref b12, .ref b13, .ref b14, .ref b15, .ref b16, .ref b17, .int i18, .int i19, .int i20, .ref b21, .ref b22, .ref b23, .ref b24, .ref b25, .ref b26, .int i27, .ref b28, .ref b29, .ref b30, .ref b31, .ref b32, .ref b33, .ref b34, .ref b35, .ref b36, .int i37, .int i38, .int i39, .int i40, .int i41, .int i42, .int i43, .int i44, .int i45, .ref b46, .ref b47, .ref b48, .ref b49, .ref b50, .ref b51, .ref b52, .ref b53, .ref b54, .ref b55, .ref b56, .ref b57, .ref b58, .ref b59, .ref b60, .ref b61, .ref b62, .ref b63])), (b6, .inl (g.2.1 1, 11, .inl P)), (b7, .inl (g.2.1 1, 11, .inl Lc)), (b12, .inl (g.2.1 1, 132, .inl La)), (b13, .inl (g.2.1 1, 132, .inl Lb)), (b17, .inl (g.2.1 3, 132, .inl Lo))] := hW.pick [0, 1, 2, 3, 4, 5] rfl rfl
                exact ih2 (i + 1) bi (by omega) (by omega) hbi _ _ _ hW (lv_sub hl [2, 3, 4, 5, 0] rfl)
              · have h_o : Lo (12 * v + i) = 0 := c9
                refine lv_iload_n (pc := 43) hx hb dX12_holdsAll_43 rfl (lv_at hl 3 rfl) ?_
                refine lv_aload_n (pc := 44) hx hb dX12_holdsAll_44 rfl (lv_at hl 1 rfl) ?_
                refine r_get X hW 0 ciX12 12 rfl (by decide) m_1243 rfl rfl dX12_holdsAll_45 ?_
                refine lv_iload (pc := 48) hx hb dX12_holdsAll_48 (lv_at hl 0 rfl) ?_
                refine r_iald X hW 3 rfl (vp_in_nI (by omega) (by decide)) dX12_holdsAll_50 ?_
                refine lv_topi (fun uv10 euv10 => ?_)
                obtain rfl : uv10 = La (12 * v + i) := euv10.trans (by rw [nI_clamp (by omega)])
                refine lv_ishr (pc := 51) hx hb dX12_holdsAll_51 ?_
                refine lv_topi (fun uv11 euv11 => ?_)
                obtain rfl : uv11 = bi >>> (La (12 * v + i) &&& 31) := euv11.trans (rfl)
                refine lv_iload_n (pc := 52) hx hb dX12_holdsAll_52 rfl (lv_at hl 3 rfl) ?_
                refine lv_aload_n (pc := 53) hx hb dX12_holdsAll_53 rfl (lv_at hl 1 rfl) ?_
                refine r_get X hW 0 ciX12 13 rfl (by decide) m_1244 rfl rfl dX12_holdsAll_54 ?_
                refine lv_iload (pc := 57) hx hb dX12_holdsAll_57 (lv_at hl 0 rfl) ?_
                refine r_iald X hW 4 rfl (vp_in_nI (by omega) (by decide)) dX12_holdsAll_59 ?_
                refine lv_topi (fun uv12 euv12 => ?_)
                obtain rfl : uv12 = Lb (12 * v + i) := euv12.trans (by rw [nI_clamp (by omega)])
                refine lv_ishr (pc := 60) hx hb dX12_holdsAll_60 ?_
                refine lv_topi (fun uv13 euv13 => ?_)
                obtain rfl : uv13 = bi >>> (Lb (12 * v + i) &&& 31) := euv13.trans (rfl)
                refine lv_ior (pc := 61) hx hb dX12_holdsAll_61 ?_
                refine lv_topi (fun uv14 euv14 => ?_)
                obtain rfl : uv14 = (bi >>> (La (12 * v + i) &&& 31)) ||| (bi >>> (Lb (12 * v + i) &&& 31)) := euv14.trans (rfl)
                refine lv_iconst (v := 1) (pc := 62) hx hb dX12_holdsAll_62 (by decide) ?_
                refine lv_iand (pc := 63) hx hb dX12_holdsAll_63 ?_
                refine lv_topi (fun uv15 euv15 => ?_)
                obtain rfl : uv15 = ((bi >>> (La (12 * v + i) &&& 31)) ||| (bi >>> (Lb (12 * v + i) &&& 31))) &&& 1 := euv15.trans (rfl)
                refine lv_if_ne (tgt := 70) (pc := 64) hx hb dX12_holdsAll_64 rfl (fun c16 => ?_) (fun c16 => ?_)
                · have h_t := c16
                  refine lv_iload_n (pc := 70) hx hb dX12_holdsAll_70 rfl (lv_at hl 3 rfl) ?_
                  refine lv_iconst (v := 1) (pc := 71) hx hb dX12_holdsAll_71 (by decide) ?_
                  refine lv_aload_n (pc := 72) hx hb dX12_holdsAll_72 rfl (lv_at hl 1 rfl) ?_
                  refine r_get X hW 0 ciX12 12 rfl (by decide) m_1243 rfl rfl dX12_holdsAll_73 ?_
                  refine lv_iload (pc := 76) hx hb dX12_holdsAll_76 (lv_at hl 0 rfl) ?_
                  refine r_iald X hW 3 rfl (vp_in_nI (by omega) (by decide)) dX12_holdsAll_78 ?_
                  refine lv_topi (fun uv17 euv17 => ?_)
                  obtain rfl : uv17 = La (12 * v + i) := euv17.trans (by rw [nI_clamp (by omega)])
                  refine lv_ishl (pc := 79) hx hb dX12_holdsAll_79 ?_
                  refine lv_topi (fun uv18 euv18 => ?_)
                  obtain rfl : uv18 = (1 : Int32) <<< (La (12 * v + i) &&& 31) := euv18.trans (rfl)
                  refine lv_iconst (v := 1) (pc := 80) hx hb dX12_holdsAll_80 (by decide) ?_
                  refine lv_aload_n (pc := 81) hx hb dX12_holdsAll_81 rfl (lv_at hl 1 rfl) ?_
                  refine r_get X hW 0 ciX12 13 rfl (by decide) m_1244 rfl rfl dX12_holdsAll_82 ?_
                  refine lv_iload (pc := 85) hx hb dX12_holdsAll_85 (lv_at hl 0 rfl) ?_
                  refine r_iald X hW 4 rfl (vp_in_nI (by omega) (by decide)) dX12_holdsAll_87 ?_
                  refine lv_topi (fun uv19 euv19 => ?_)
                  obtain rfl : uv19 = Lb (12 * v + i) := euv19.trans (by rw [nI_clamp (by omega)])
                  refine lv_ishl (pc := 88) hx hb dX12_holdsAll_88 ?_
                  refine lv_topi (fun uv20 euv20 => ?_)
                  obtain rfl : uv20 = (1 : Int32) <<< (Lb (12 * v + i) &&& 31) := euv20.trans (rfl)
                  refine lv_ior (pc := 89) hx hb dX12_holdsAll_89 ?_
                  refine lv_topi (fun uv21 euv21 => ?_)
                  obtain rfl : uv21 = ((1 : Int32) <<< (La (12 * v + i) &&& 31)) ||| ((1 : Int32) <<< (Lb (12 * v + i) &&& 31)) := euv21.trans (rfl)
                  refine lv_ior (pc := 90) hx hb dX12_holdsAll_90 ?_
                  refine lv_topi (fun uv22 euv22 => ?_)
                  obtain rfl : uv22 = bi ||| (((1 : Int32) <<< (La (12 * v + i) &&& 31)) ||| ((1 : Int32) <<< (Lb (12 * v + i) &&& 31))) := euv22.trans (rfl)
                  refine lv_istore_n (lv' := [(2, .int (bi ||| (((1 : Int32) <<< (La (12 * v + i) &&& 31)) ||| ((1 : Int32) <<< (Lb (12 * v + i) &&& 31))))), (5, .int (nI (12 * v + i))), (0, .ref h0), (1, .int (nI v)), (3, .int (nI t)), (4, .int (nI i))]) (pc := 91) hx hb dX12_holdsAll_91 rfl hl (by decide) rfl (fun ls hl => ?_)
                  refine lv_iinc (v := nI (i + 1)) (lv' := [(4, .int (nI (i + 1))), (2, .int (bi ||| (((1 : Int32) <<< (La (12 * v + i) &&& 31)) ||| ((1 : Int32) <<< (Lb (12 * v + i) &&& 31))))), (5, .int (nI (12 * v + i))), (0, .ref h0), (1, .int (nI v)), (3, .int (nI t))]) (pc := 92) hx hb dX12_holdsAll_92 hl (k := 5) rfl ((nI_succ i).symm) (by decide) rfl (fun ls hl => ?_)
                  refine lv_goto (tgt := 13) (pc := 95) hx hb dX12_holdsAll_95 rfl ?_
                  have hW : WD g A s _ _ [(h0, .inr (12, [.int i0, .ref b1, .int i2, .int i3, .int i4, .int i5, .ref b6, .ref b7, .ref b8, .ref b9, .ref b10, .ref b11, .ref b12, .ref b13, .ref b14, .ref b15, .ref b16, .ref b17, .int i18, .int i19, .int i20, .ref b21, .ref b22, .ref b23, .ref b24, .ref b25, .ref b26, .int i27, .ref b28, .ref b29, .ref b30, .ref b31, .ref b32, .ref b33, .ref b34, .ref b35, .ref b36, .int i37, .int i38, .int i39, .int i40, .int i41, .int i42, .int i43, .int i44, .int i45, .ref b46, .ref b47, .ref b48, .ref b49, .ref b50, .ref b51, .ref b52, .ref b53, .ref b54, .ref b55, .ref b56, .ref b57, .ref b58, .ref b59, .ref b60, .ref b61, .ref b62, .ref b63])), (b6, .inl (g.2.1 1, 11, .inl P)), (b7, .inl (g.2.1 1, 11, .inl Lc)), (b12, .inl (g.2.1 1, 132, .inl La)), (b13, .inl (g.2.1 1, 132, .inl Lb)), (b17, .inl (g.2.1 3, 132, .inl Lo))] := hW.pick [0, 1, 2, 3, 4, 5] rfl rfl
                  exact ih2 (i + 1) (bi ||| (((1 : Int32) <<< (La (12 * v + i) &&& 31)) ||| ((1 : Int32) <<< (Lb (12 * v + i) &&& 31)))) (by omega) (by omega) (hbit_s hbi hil h_o eA eB hea heb h_t) _ _ _ hW (lv_sub hl [3, 4, 1, 5, 0] rfl)
                · refine lv_goto (tgt := 92) (pc := 67) hx hb dX12_holdsAll_67 rfl ?_
                  refine lv_iinc (v := nI (i + 1)) (lv' := [(4, .int (nI (i + 1))), (5, .int (nI (12 * v + i))), (0, .ref h0), (1, .int (nI v)), (2, .int bi), (3, .int (nI t))]) (pc := 92) hx hb dX12_holdsAll_92 hl (k := 5) rfl ((nI_succ i).symm) (by decide) rfl (fun ls hl => ?_)
                  refine lv_goto (tgt := 13) (pc := 95) hx hb dX12_holdsAll_95 rfl ?_
                  have hW : WD g A s _ _ [(h0, .inr (12, [.int i0, .ref b1, .int i2, .int i3, .int i4, .int i5, .ref b6, .ref b7, .ref b8, .ref b9, .ref b10, .ref b11, .ref b12, .ref b13, .ref b14, .ref b15, .ref b16, .ref b17, .int i18, .int i19, .int i20, .ref b21, .ref b22, .ref b23, .ref b24, .ref b25, .ref b26, .int i27, .ref b28, .ref b29, .ref b30, .ref b31, .ref b32, .ref b33, .ref b34, .ref b35, .ref b36, .int i37, .int i38, .int i39, .int i40, .int i41, .int i42, .int i43, .int i44, .int i45, .ref b46, .ref b47, .ref b48, .ref b49, .ref b50, .ref b51, .ref b52, .ref b53, .ref b54, .ref b55, .ref b56, .ref b57, .ref b58, .ref b59, .ref b60, .ref b61, .ref b62, .ref b63])), (b6, .inl (g.2.1 1, 11, .inl P)), (b7, .inl (g.2.1 1, 11, .inl Lc)), (b12, .inl (g.2.1 1, 132, .inl La)), (b13, .inl (g.2.1 1, 132, .inl Lb)), (b17, .inl (g.2.1 3, 132, .inl Lo))] := hW.pick [0, 1, 2, 3, 4, 5] rfl rfl
                  exact ih2 (i + 1) bi (by omega) (by omega) hbi _ _ _ hW (lv_sub hl [2, 3, 4, 5, 0] rfl)
        exact loop2 (lc + 1) 0 bi (by omega) (Nat.zero_le _) hbi _ _ _ hW (lv_sub hl [1, 2, 3, 4, 0] rfl)
  exact loop1 8 0 1 (by omega) (by omega) hbit_1 _ _ _ hW (lv_sub hl [2, 3, 1, 0] rfl)

def bd7 (B : Nat → Int32) (n : Nat) : Prop := ∀ j : Nat, j < n → ∃ k : Nat, k ≤ 6 ∧ B j = nI k
theorem bd7_upd {B : Nat → Int32} {n k e : Nat} (h : bd7 B n) (he : e ≤ 6) : bd7 (upd B k (nI e)) n := fun j hj => by
  by_cases q : j = k
  · subst q; exact ⟨e, he, by simp only [upd, if_true]⟩
  · obtain ⟨x, h1, h2⟩ := h j hj
    exact ⟨x, h1, by simp only [upd, q, if_false]; exact h2⟩
theorem upd_ne {f : Nat → Int32} {k j : Nat} {x : Int32} (h : ¬ j = k) : upd f k x j = f j := by simp only [upd, h, if_false]
theorem upd_eq {f : Nat → Int32} {k : Nat} {x : Int32} : upd f k x k = x := by simp only [upd, if_true]
theorem nI_s1 {i : Nat} (h : 0 < i) : nI i - 1 = nI (i - 1) := by
  obtain ⟨j, rfl⟩ : ∃ j, i = j + 1 := ⟨i - 1, by omega⟩
  exact nI_m1 j
theorem nI_d1 {i : Nat} (h : 0 < i) : nI i + Int32.ofInt (-1) = nI (i - 1) := by
  have := nI_s1 h
  rw [Int32.sub_eq_add_neg] at this
  exact this
theorem not_le0 {k : Nat} (hk : k < 2 ^ 31) (h : ¬ nI k ≤ 0) : 0 < k := by
  rcases Nat.eq_zero_or_pos k with e | e
  · subst e; exact absurd (by decide) h
  · exact e
theorem jnv_e {La Lb Lo : Nat → Int32} {v l a b : Nat} (h0 : Lo (12 * v + l) = 0) (h : ¬ jnv La Lb Lo (12 * v + l) (nI a) (nI b) = 0) : endsOf La Lb v l a b := (jnv_1 h).imp id (fun q => ⟨q.2.1, q.2.2⟩)
def isv (n x : Int32) : Int32 := if x < 0 then 0 else if n ≤ x then 0 else 1
theorem isv_1 {n : Nat} {x : Int32} (hn : n < 2 ^ 31) (h : ¬ isv (nI n) x = 0) : ∃ v : Nat, v < n ∧ x = nI v := by
  unfold isv at h
  split at h
  · exact absurd rfl h
  · rename_i h1
    split at h
    · exact absurd rfl h
    · rename_i h2
      rw [fa_lt, i0] at h1
      rw [fa_le, nI_toInt hn] at h2
      exact ⟨x.toInt.toNat, by omega, Int32.toInt_inj.mp (by rw [nI_toInt (by omega)]; omega)⟩
theorem inp_1 {p : Nat} {x : Int32} (hp : p ≤ 7) (h : ¬ inv3 x 0 (nI p - 1) = 0) : ∃ a : Nat, a < p ∧ x = nI a := by
  obtain ⟨h1, h2⟩ := inv3_1 h
  rw [fa_lt, i0] at h1
  rcases Nat.eq_zero_or_pos p with e | e
  · subst e
    rw [fa_lt, show (nI 0 - 1 : Int32).toInt = -1 by decide] at h2
    omega
  · rw [nI_s1 e, fa_lt, nI_toInt (by omega)] at h2
    exact ⟨x.toInt.toNat, by omega, Int32.toInt_inj.mp (by rw [nI_toInt (by omega)]; omega)⟩
theorem m_1737 : (Cond.code yX12_isBeside prog_14_method_80_code 5 (Option.some FieldType.boolean)) ∈ BW := bw (tb8 57 (by decide +kernel)) (by decide +kernel)
theorem dX12_isBeside_0 : decode cX12_isBeside 0 = .ok (.iconst 0, 1) := by decide +kernel
theorem dX12_isBeside_1 : decode cX12_isBeside 1 = .ok (.istore 4, 2) := by decide +kernel
theorem dX12_isBeside_3 : decode cX12_isBeside 3 = .ok (.iload 4, 2) := by decide +kernel
theorem dX12_isBeside_5 : decode cX12_isBeside 5 = .ok (.aload_n 0, 1) := by decide +kernel
theorem dX12_isBeside_6 : decode cX12_isBeside 6 = .ok (.getfield 17, 3) := by decide +kernel
theorem dX12_isBeside_9 : decode cX12_isBeside 9 = .ok (.iload_n 1, 1) := by decide +kernel
theorem dX12_isBeside_10 : decode cX12_isBeside 10 = .ok (.iaload, 1) := by decide +kernel
theorem dX12_isBeside_11 : decode cX12_isBeside 11 = .ok (.if_icmp .ge 42, 3) := by decide +kernel
theorem dX12_isBeside_53 : decode cX12_isBeside 53 = .ok (.iconst 0, 1) := by decide +kernel
theorem dX12_isBeside_54 : decode cX12_isBeside 54 = .ok (.ireturn, 1) := by decide +kernel
theorem dX12_isBeside_14 : decode cX12_isBeside 14 = .ok (.aload_n 0, 1) := by decide +kernel
theorem dX12_isBeside_15 : decode cX12_isBeside 15 = .ok (.getfield 47, 3) := by decide +kernel
theorem dX12_isBeside_18 : decode cX12_isBeside 18 = .ok (.bipush 12, 2) := by decide +kernel
theorem dX12_isBeside_20 : decode cX12_isBeside 20 = .ok (.iload_n 1, 1) := by decide +kernel
theorem dX12_isBeside_21 : decode cX12_isBeside 21 = .ok (.imul, 1) := by decide +kernel
theorem dX12_isBeside_22 : decode cX12_isBeside 22 = .ok (.iload 4, 2) := by decide +kernel
theorem dX12_isBeside_24 : decode cX12_isBeside 24 = .ok (.iadd, 1) := by decide +kernel
theorem dX12_isBeside_25 : decode cX12_isBeside 25 = .ok (.baload, 1) := by decide +kernel
theorem dX12_isBeside_26 : decode cX12_isBeside 26 = .ok (.ifCond .ne 21, 3) := by decide +kernel
theorem dX12_isBeside_47 : decode cX12_isBeside 47 = .ok (.iinc 4 1, 3) := by decide +kernel
theorem dX12_isBeside_50 : decode cX12_isBeside 50 = .ok (.goto (-47), 3) := by decide +kernel
theorem dX12_isBeside_29 : decode cX12_isBeside 29 = .ok (.aload_n 0, 1) := by decide +kernel
theorem dX12_isBeside_30 : decode cX12_isBeside 30 = .ok (.bipush 12, 2) := by decide +kernel
theorem dX12_isBeside_32 : decode cX12_isBeside 32 = .ok (.iload_n 1, 1) := by decide +kernel
theorem dX12_isBeside_33 : decode cX12_isBeside 33 = .ok (.imul, 1) := by decide +kernel
theorem dX12_isBeside_34 : decode cX12_isBeside 34 = .ok (.iload 4, 2) := by decide +kernel
theorem dX12_isBeside_36 : decode cX12_isBeside 36 = .ok (.iadd, 1) := by decide +kernel
theorem dX12_isBeside_37 : decode cX12_isBeside 37 = .ok (.iload_n 2, 1) := by decide +kernel
theorem dX12_isBeside_38 : decode cX12_isBeside 38 = .ok (.iload_n 3, 1) := by decide +kernel
theorem dX12_isBeside_39 : decode cX12_isBeside 39 = .ok (.invokevirtual 231, 3) := by decide +kernel
theorem dX12_isBeside_42 : decode cX12_isBeside 42 = .ok (.ifCond .eq 5, 3) := by decide +kernel
theorem dX12_isBeside_45 : decode cX12_isBeside 45 = .ok (.iconst 1, 1) := by decide +kernel
theorem dX12_isBeside_46 : decode cX12_isBeside 46 = .ok (.ireturn, 1) := by decide +kernel
theorem m_1729 : (Cond.code yX12_isTree prog_14_method_79_code 4 (Option.some FieldType.boolean)) ∈ BW := bw (tb8 49 (by decide +kernel)) (by decide +kernel)
theorem dX12_isTree_0 : decode cX12_isTree 0 = .ok (.iconst 0, 1) := by decide +kernel
theorem dX12_isTree_1 : decode cX12_isTree 1 = .ok (.istore_n 2, 1) := by decide +kernel
theorem dX12_isTree_2 : decode cX12_isTree 2 = .ok (.iconst 0, 1) := by decide +kernel
theorem dX12_isTree_3 : decode cX12_isTree 3 = .ok (.istore_n 3, 1) := by decide +kernel
theorem dX12_isTree_4 : decode cX12_isTree 4 = .ok (.iload_n 3, 1) := by decide +kernel
theorem dX12_isTree_5 : decode cX12_isTree 5 = .ok (.aload_n 0, 1) := by decide +kernel
theorem dX12_isTree_6 : decode cX12_isTree 6 = .ok (.getfield 17, 3) := by decide +kernel
theorem dX12_isTree_9 : decode cX12_isTree 9 = .ok (.iload_n 1, 1) := by decide +kernel
theorem dX12_isTree_10 : decode cX12_isTree 10 = .ok (.iaload, 1) := by decide +kernel
theorem dX12_isTree_11 : decode cX12_isTree 11 = .ok (.if_icmp .ge 31, 3) := by decide +kernel
theorem dX12_isTree_42 : decode cX12_isTree 42 = .ok (.iload_n 2, 1) := by decide +kernel
theorem dX12_isTree_43 : decode cX12_isTree 43 = .ok (.aload_n 0, 1) := by decide +kernel
theorem dX12_isTree_44 : decode cX12_isTree 44 = .ok (.getfield 13, 3) := by decide +kernel
theorem dX12_isTree_47 : decode cX12_isTree 47 = .ok (.iload_n 1, 1) := by decide +kernel
theorem dX12_isTree_48 : decode cX12_isTree 48 = .ok (.iaload, 1) := by decide +kernel
theorem dX12_isTree_49 : decode cX12_isTree 49 = .ok (.iconst 1, 1) := by decide +kernel
theorem dX12_isTree_50 : decode cX12_isTree 50 = .ok (.isub, 1) := by decide +kernel
theorem dX12_isTree_51 : decode cX12_isTree 51 = .ok (.if_icmp .ne 15, 3) := by decide +kernel
theorem dX12_isTree_66 : decode cX12_isTree 66 = .ok (.iconst 0, 1) := by decide +kernel
theorem dX12_isTree_67 : decode cX12_isTree 67 = .ok (.ireturn, 1) := by decide +kernel
theorem dX12_isTree_54 : decode cX12_isTree 54 = .ok (.aload_n 0, 1) := by decide +kernel
theorem dX12_isTree_55 : decode cX12_isTree 55 = .ok (.iload_n 1, 1) := by decide +kernel
theorem dX12_isTree_56 : decode cX12_isTree 56 = .ok (.invokevirtual 349, 3) := by decide +kernel
theorem dX12_isTree_59 : decode cX12_isTree 59 = .ok (.ifCond .eq 7, 3) := by decide +kernel
theorem dX12_isTree_62 : decode cX12_isTree 62 = .ok (.iconst 1, 1) := by decide +kernel
theorem dX12_isTree_63 : decode cX12_isTree 63 = .ok (.goto 4, 3) := by decide +kernel
theorem dX12_isTree_14 : decode cX12_isTree 14 = .ok (.iload_n 2, 1) := by decide +kernel
theorem dX12_isTree_15 : decode cX12_isTree 15 = .ok (.aload_n 0, 1) := by decide +kernel
theorem dX12_isTree_16 : decode cX12_isTree 16 = .ok (.getfield 47, 3) := by decide +kernel
theorem dX12_isTree_19 : decode cX12_isTree 19 = .ok (.bipush 12, 2) := by decide +kernel
theorem dX12_isTree_21 : decode cX12_isTree 21 = .ok (.iload_n 1, 1) := by decide +kernel
theorem dX12_isTree_22 : decode cX12_isTree 22 = .ok (.imul, 1) := by decide +kernel
theorem dX12_isTree_23 : decode cX12_isTree 23 = .ok (.iload_n 3, 1) := by decide +kernel
theorem dX12_isTree_24 : decode cX12_isTree 24 = .ok (.iadd, 1) := by decide +kernel
theorem dX12_isTree_25 : decode cX12_isTree 25 = .ok (.baload, 1) := by decide +kernel
theorem dX12_isTree_26 : decode cX12_isTree 26 = .ok (.ifCond .eq 7, 3) := by decide +kernel
theorem dX12_isTree_33 : decode cX12_isTree 33 = .ok (.iconst 1, 1) := by decide +kernel
theorem dX12_isTree_34 : decode cX12_isTree 34 = .ok (.iadd, 1) := by decide +kernel
theorem dX12_isTree_35 : decode cX12_isTree 35 = .ok (.istore_n 2, 1) := by decide +kernel
theorem dX12_isTree_36 : decode cX12_isTree 36 = .ok (.iinc 3 1, 3) := by decide +kernel
theorem dX12_isTree_39 : decode cX12_isTree 39 = .ok (.goto (-35), 3) := by decide +kernel
theorem dX12_isTree_29 : decode cX12_isTree 29 = .ok (.iconst 0, 1) := by decide +kernel
theorem dX12_isTree_30 : decode cX12_isTree 30 = .ok (.goto 4, 3) := by decide +kernel
theorem m_1733 : (Cond.code yX12_layTree prog_14_method_81_code 6 (Option.none : Option Jvm.ClassFile.FieldType)) ∈ BW := bw (tb8 53 (by decide +kernel)) (by decide +kernel)
theorem dX12_layTree_0 : decode cX12_layTree 0 = .ok (.aload_n 0, 1) := by decide +kernel
theorem dX12_layTree_1 : decode cX12_layTree 1 = .ok (.getfield 135, 3) := by decide +kernel
theorem dX12_layTree_4 : decode cX12_layTree 4 = .ok (.iload_n 2, 1) := by decide +kernel
theorem dX12_layTree_5 : decode cX12_layTree 5 = .ok (.iconst 0, 1) := by decide +kernel
theorem dX12_layTree_6 : decode cX12_layTree 6 = .ok (.iastore, 1) := by decide +kernel
theorem dX12_layTree_7 : decode cX12_layTree 7 = .ok (.aload_n 0, 1) := by decide +kernel
theorem dX12_layTree_8 : decode cX12_layTree 8 = .ok (.getfield 138, 3) := by decide +kernel
theorem dX12_layTree_11 : decode cX12_layTree 11 = .ok (.iload_n 2, 1) := by decide +kernel
theorem dX12_layTree_12 : decode cX12_layTree 12 = .ok (.iconst 0, 1) := by decide +kernel
theorem dX12_layTree_13 : decode cX12_layTree 13 = .ok (.iastore, 1) := by decide +kernel
theorem dX12_layTree_14 : decode cX12_layTree 14 = .ok (.iconst 0, 1) := by decide +kernel
theorem dX12_layTree_15 : decode cX12_layTree 15 = .ok (.istore 4, 2) := by decide +kernel
theorem dX12_layTree_17 : decode cX12_layTree 17 = .ok (.iload 4, 2) := by decide +kernel
theorem dX12_layTree_19 : decode cX12_layTree 19 = .ok (.aload_n 0, 1) := by decide +kernel
theorem dX12_layTree_20 : decode cX12_layTree 20 = .ok (.getfield 13, 3) := by decide +kernel
theorem dX12_layTree_23 : decode cX12_layTree 23 = .ok (.iload_n 1, 1) := by decide +kernel
theorem dX12_layTree_24 : decode cX12_layTree 24 = .ok (.iaload, 1) := by decide +kernel
theorem dX12_layTree_25 : decode cX12_layTree 25 = .ok (.if_icmp .ge 141, 3) := by decide +kernel
theorem dX12_layTree_166 : decode cX12_layTree 166 = .ok (.iconst 0, 1) := by decide +kernel
theorem dX12_layTree_167 : decode cX12_layTree 167 = .ok (.istore 4, 2) := by decide +kernel
theorem dX12_layTree_169 : decode cX12_layTree 169 = .ok (.iload 4, 2) := by decide +kernel
theorem dX12_layTree_171 : decode cX12_layTree 171 = .ok (.aload_n 0, 1) := by decide +kernel
theorem dX12_layTree_172 : decode cX12_layTree 172 = .ok (.getfield 135, 3) := by decide +kernel
theorem dX12_layTree_175 : decode cX12_layTree 175 = .ok (.iload_n 2, 1) := by decide +kernel
theorem dX12_layTree_176 : decode cX12_layTree 176 = .ok (.iaload, 1) := by decide +kernel
theorem dX12_layTree_177 : decode cX12_layTree 177 = .ok (.if_icmp .ge 46, 3) := by decide +kernel
theorem dX12_layTree_223 : decode cX12_layTree 223 = .ok (.return_, 1) := by decide +kernel
theorem dX12_layTree_180 : decode cX12_layTree 180 = .ok (.aload_n 0, 1) := by decide +kernel
theorem dX12_layTree_181 : decode cX12_layTree 181 = .ok (.getfield 138, 3) := by decide +kernel
theorem dX12_layTree_184 : decode cX12_layTree 184 = .ok (.iload_n 2, 1) := by decide +kernel
theorem dX12_layTree_185 : decode cX12_layTree 185 = .ok (.aload_n 0, 1) := by decide +kernel
theorem dX12_layTree_186 : decode cX12_layTree 186 = .ok (.getfield 138, 3) := by decide +kernel
theorem dX12_layTree_189 : decode cX12_layTree 189 = .ok (.iload_n 2, 1) := by decide +kernel
theorem dX12_layTree_190 : decode cX12_layTree 190 = .ok (.iaload, 1) := by decide +kernel
theorem dX12_layTree_191 : decode cX12_layTree 191 = .ok (.iload 4, 2) := by decide +kernel
theorem dX12_layTree_193 : decode cX12_layTree 193 = .ok (.iconst 1, 1) := by decide +kernel
theorem dX12_layTree_194 : decode cX12_layTree 194 = .ok (.iadd, 1) := by decide +kernel
theorem dX12_layTree_195 : decode cX12_layTree 195 = .ok (.aload_n 0, 1) := by decide +kernel
theorem dX12_layTree_196 : decode cX12_layTree 196 = .ok (.getfield 138, 3) := by decide +kernel
theorem dX12_layTree_199 : decode cX12_layTree 199 = .ok (.aload_n 0, 1) := by decide +kernel
theorem dX12_layTree_200 : decode cX12_layTree 200 = .ok (.getfield 132, 3) := by decide +kernel
theorem dX12_layTree_203 : decode cX12_layTree 203 = .ok (.bipush 7, 2) := by decide +kernel
theorem dX12_layTree_205 : decode cX12_layTree 205 = .ok (.iload_n 2, 1) := by decide +kernel
theorem dX12_layTree_206 : decode cX12_layTree 206 = .ok (.imul, 1) := by decide +kernel
theorem dX12_layTree_207 : decode cX12_layTree 207 = .ok (.iload 4, 2) := by decide +kernel
theorem dX12_layTree_209 : decode cX12_layTree 209 = .ok (.iadd, 1) := by decide +kernel
theorem dX12_layTree_210 : decode cX12_layTree 210 = .ok (.iaload, 1) := by decide +kernel
theorem dX12_layTree_211 : decode cX12_layTree 211 = .ok (.iaload, 1) := by decide +kernel
theorem dX12_layTree_212 : decode cX12_layTree 212 = .ok (.iadd, 1) := by decide +kernel
theorem mm_X12_213 : (Cond.methodLink "NoonValleyModel" 374 Lib.Math.max.name) ∈ BW := bw (tb8 58 (by decide +kernel)) (by decide +kernel)
theorem dX12_layTree_213 : decode cX12_layTree 213 = .ok (.invokestatic 374, 3) := by decide +kernel
theorem dX12_layTree_216 : decode cX12_layTree 216 = .ok (.iastore, 1) := by decide +kernel
theorem dX12_layTree_217 : decode cX12_layTree 217 = .ok (.iinc 4 1, 3) := by decide +kernel
theorem dX12_layTree_220 : decode cX12_layTree 220 = .ok (.goto (-51), 3) := by decide +kernel
theorem dX12_layTree_28 : decode cX12_layTree 28 = .ok (.iload 4, 2) := by decide +kernel
theorem dX12_layTree_30 : decode cX12_layTree 30 = .ok (.iload_n 3, 1) := by decide +kernel
theorem dX12_layTree_31 : decode cX12_layTree 31 = .ok (.if_icmp .eq 129, 3) := by decide +kernel
theorem dX12_layTree_160 : decode cX12_layTree 160 = .ok (.iinc 4 1, 3) := by decide +kernel
theorem dX12_layTree_163 : decode cX12_layTree 163 = .ok (.goto (-146), 3) := by decide +kernel
theorem dX12_layTree_34 : decode cX12_layTree 34 = .ok (.iload 4, 2) := by decide +kernel
theorem dX12_layTree_36 : decode cX12_layTree 36 = .ok (.iload_n 2, 1) := by decide +kernel
theorem dX12_layTree_37 : decode cX12_layTree 37 = .ok (.if_icmp .eq 123, 3) := by decide +kernel
theorem dX12_layTree_40 : decode cX12_layTree 40 = .ok (.aload_n 0, 1) := by decide +kernel
theorem dX12_layTree_41 : decode cX12_layTree 41 = .ok (.iload_n 1, 1) := by decide +kernel
theorem dX12_layTree_42 : decode cX12_layTree 42 = .ok (.iload_n 2, 1) := by decide +kernel
theorem dX12_layTree_43 : decode cX12_layTree 43 = .ok (.iload 4, 2) := by decide +kernel
theorem m_1734 : (Cond.methodLink "NoonValleyModel" 367 yX12_isBeside) ∈ BW := bw (tb8 54 (by decide +kernel)) (by decide +kernel)
theorem m_1736 : (Cond.instanceMethod yX12_isBeside) ∈ BW := bw (tb8 56 (by decide +kernel)) (by decide +kernel)
theorem s_7_0 : (Cond.selects RX12 yX12_isBeside yX12_isBeside) ∈ BW := bw (sl7 (y := yX12_isBeside) (n := 64) 0 (by decide +kernel)) (by decide +kernel)
theorem vX12_367 : LV RX12 367 RX12 yX12_isBeside cX12_isBeside 5 (some .boolean) 3 := ⟨m_1734, m_1736, s_7_0, m_12, m_1737, rfl, by decide, by decide, by decide +kernel⟩
theorem dX12_layTree_45 : decode cX12_layTree 45 = .ok (.invokevirtual 367, 3) := by decide +kernel
theorem dX12_layTree_48 : decode cX12_layTree 48 = .ok (.ifCond .ne 6, 3) := by decide +kernel
theorem dX12_layTree_54 : decode cX12_layTree 54 = .ok (.aload_n 0, 1) := by decide +kernel
theorem dX12_layTree_55 : decode cX12_layTree 55 = .ok (.iload_n 1, 1) := by decide +kernel
theorem dX12_layTree_56 : decode cX12_layTree 56 = .ok (.iload 4, 2) := by decide +kernel
theorem dX12_layTree_58 : decode cX12_layTree 58 = .ok (.iload_n 2, 1) := by decide +kernel
theorem m_1730 : (Cond.methodLink "NoonValleyModel" 370 yX12_layTree) ∈ BW := bw (tb8 50 (by decide +kernel)) (by decide +kernel)
theorem m_1732 : (Cond.instanceMethod yX12_layTree) ∈ BW := bw (tb8 52 (by decide +kernel)) (by decide +kernel)
theorem s_6_15 : (Cond.selects RX12 yX12_layTree yX12_layTree) ∈ BW := bw (sl6 (y := yX12_layTree) (n := 64) 15 (by decide +kernel)) (by decide +kernel)
theorem vX12_370 : LV RX12 370 RX12 yX12_layTree cX12_layTree 6 none 3 := ⟨m_1730, m_1732, s_6_15, m_12, m_1733, rfl, by decide, by decide, by decide +kernel⟩
theorem dX12_layTree_59 : decode cX12_layTree 59 = .ok (.invokevirtual 370, 3) := by decide +kernel
theorem dX12_layTree_62 : decode cX12_layTree 62 = .ok (.aload_n 0, 1) := by decide +kernel
theorem dX12_layTree_63 : decode cX12_layTree 63 = .ok (.getfield 135, 3) := by decide +kernel
theorem dX12_layTree_66 : decode cX12_layTree 66 = .ok (.iload_n 2, 1) := by decide +kernel
theorem dX12_layTree_67 : decode cX12_layTree 67 = .ok (.iaload, 1) := by decide +kernel
theorem dX12_layTree_68 : decode cX12_layTree 68 = .ok (.istore 5, 2) := by decide +kernel
theorem dX12_layTree_70 : decode cX12_layTree 70 = .ok (.iload 5, 2) := by decide +kernel
theorem dX12_layTree_72 : decode cX12_layTree 72 = .ok (.ifCond .le 64, 3) := by decide +kernel
theorem dX12_layTree_136 : decode cX12_layTree 136 = .ok (.aload_n 0, 1) := by decide +kernel
theorem dX12_layTree_137 : decode cX12_layTree 137 = .ok (.getfield 132, 3) := by decide +kernel
theorem dX12_layTree_140 : decode cX12_layTree 140 = .ok (.bipush 7, 2) := by decide +kernel
theorem dX12_layTree_142 : decode cX12_layTree 142 = .ok (.iload_n 2, 1) := by decide +kernel
theorem dX12_layTree_143 : decode cX12_layTree 143 = .ok (.imul, 1) := by decide +kernel
theorem dX12_layTree_144 : decode cX12_layTree 144 = .ok (.iload 5, 2) := by decide +kernel
theorem dX12_layTree_146 : decode cX12_layTree 146 = .ok (.iadd, 1) := by decide +kernel
theorem dX12_layTree_147 : decode cX12_layTree 147 = .ok (.iload 4, 2) := by decide +kernel
theorem dX12_layTree_149 : decode cX12_layTree 149 = .ok (.iastore, 1) := by decide +kernel
theorem dX12_layTree_150 : decode cX12_layTree 150 = .ok (.aload_n 0, 1) := by decide +kernel
theorem dX12_layTree_151 : decode cX12_layTree 151 = .ok (.getfield 135, 3) := by decide +kernel
theorem dX12_layTree_154 : decode cX12_layTree 154 = .ok (.iload_n 2, 1) := by decide +kernel
theorem dX12_layTree_155 : decode cX12_layTree 155 = .ok (.dup2, 1) := by decide +kernel
theorem dX12_layTree_156 : decode cX12_layTree 156 = .ok (.iaload, 1) := by decide +kernel
theorem dX12_layTree_157 : decode cX12_layTree 157 = .ok (.iconst 1, 1) := by decide +kernel
theorem dX12_layTree_158 : decode cX12_layTree 158 = .ok (.iadd, 1) := by decide +kernel
theorem dX12_layTree_159 : decode cX12_layTree 159 = .ok (.iastore, 1) := by decide +kernel
theorem dX12_layTree_75 : decode cX12_layTree 75 = .ok (.aload_n 0, 1) := by decide +kernel
theorem dX12_layTree_76 : decode cX12_layTree 76 = .ok (.getfield 138, 3) := by decide +kernel
theorem dX12_layTree_79 : decode cX12_layTree 79 = .ok (.aload_n 0, 1) := by decide +kernel
theorem dX12_layTree_80 : decode cX12_layTree 80 = .ok (.getfield 132, 3) := by decide +kernel
theorem dX12_layTree_83 : decode cX12_layTree 83 = .ok (.bipush 7, 2) := by decide +kernel
theorem dX12_layTree_85 : decode cX12_layTree 85 = .ok (.iload_n 2, 1) := by decide +kernel
theorem dX12_layTree_86 : decode cX12_layTree 86 = .ok (.imul, 1) := by decide +kernel
theorem dX12_layTree_87 : decode cX12_layTree 87 = .ok (.iload 5, 2) := by decide +kernel
theorem dX12_layTree_89 : decode cX12_layTree 89 = .ok (.iadd, 1) := by decide +kernel
theorem dX12_layTree_90 : decode cX12_layTree 90 = .ok (.iconst 1, 1) := by decide +kernel
theorem dX12_layTree_91 : decode cX12_layTree 91 = .ok (.isub, 1) := by decide +kernel
theorem dX12_layTree_92 : decode cX12_layTree 92 = .ok (.iaload, 1) := by decide +kernel
theorem dX12_layTree_93 : decode cX12_layTree 93 = .ok (.iaload, 1) := by decide +kernel
theorem dX12_layTree_94 : decode cX12_layTree 94 = .ok (.aload_n 0, 1) := by decide +kernel
theorem dX12_layTree_95 : decode cX12_layTree 95 = .ok (.getfield 138, 3) := by decide +kernel
theorem dX12_layTree_98 : decode cX12_layTree 98 = .ok (.iload 4, 2) := by decide +kernel
theorem dX12_layTree_100 : decode cX12_layTree 100 = .ok (.iaload, 1) := by decide +kernel
theorem dX12_layTree_101 : decode cX12_layTree 101 = .ok (.if_icmp .ge 35, 3) := by decide +kernel
theorem dX12_layTree_104 : decode cX12_layTree 104 = .ok (.aload_n 0, 1) := by decide +kernel
theorem dX12_layTree_105 : decode cX12_layTree 105 = .ok (.getfield 132, 3) := by decide +kernel
theorem dX12_layTree_108 : decode cX12_layTree 108 = .ok (.bipush 7, 2) := by decide +kernel
theorem dX12_layTree_110 : decode cX12_layTree 110 = .ok (.iload_n 2, 1) := by decide +kernel
theorem dX12_layTree_111 : decode cX12_layTree 111 = .ok (.imul, 1) := by decide +kernel
theorem dX12_layTree_112 : decode cX12_layTree 112 = .ok (.iload 5, 2) := by decide +kernel
theorem dX12_layTree_114 : decode cX12_layTree 114 = .ok (.iadd, 1) := by decide +kernel
theorem dX12_layTree_115 : decode cX12_layTree 115 = .ok (.aload_n 0, 1) := by decide +kernel
theorem dX12_layTree_116 : decode cX12_layTree 116 = .ok (.getfield 132, 3) := by decide +kernel
theorem dX12_layTree_119 : decode cX12_layTree 119 = .ok (.bipush 7, 2) := by decide +kernel
theorem dX12_layTree_121 : decode cX12_layTree 121 = .ok (.iload_n 2, 1) := by decide +kernel
theorem dX12_layTree_122 : decode cX12_layTree 122 = .ok (.imul, 1) := by decide +kernel
theorem dX12_layTree_123 : decode cX12_layTree 123 = .ok (.iload 5, 2) := by decide +kernel
theorem dX12_layTree_125 : decode cX12_layTree 125 = .ok (.iadd, 1) := by decide +kernel
theorem dX12_layTree_126 : decode cX12_layTree 126 = .ok (.iconst 1, 1) := by decide +kernel
theorem dX12_layTree_127 : decode cX12_layTree 127 = .ok (.isub, 1) := by decide +kernel
theorem dX12_layTree_128 : decode cX12_layTree 128 = .ok (.iaload, 1) := by decide +kernel
theorem dX12_layTree_129 : decode cX12_layTree 129 = .ok (.iastore, 1) := by decide +kernel
theorem dX12_layTree_130 : decode cX12_layTree 130 = .ok (.iinc 5 (-1), 3) := by decide +kernel
theorem dX12_layTree_133 : decode cX12_layTree 133 = .ok (.goto (-63), 3) := by decide +kernel
theorem dX12_layTree_51 : decode cX12_layTree 51 = .ok (.goto 109, 3) := by decide +kernel
set_option maxHeartbeats 4000000 in
set_option maxRecDepth 100000 in
theorem C_X12_isBesideG (l : Launch) (g : GG) (h0 b1 b6 b7 b8 b9 b10 b11 b12 b13 b14 b15 b16 b17 b21 b22 b23 b24 b25 b26 b28 b29 b30 b31 b32 b33 b34 b35 b36 b46 b47 b48 b49 b50 b51 b52 b53 b54 b55 b56 b57 b58 b59 b60 b61 b62 b63 : Nat) (i0 i2 i3 i4 i5 i18 i19 i20 i27 i37 i38 i39 i40 i41 i42 i43 i44 i45 : Int32) (Lc La Lb Lo : Nat → Int32) (v lc : Nat) (hv : v ≤ 10) (hlc : lc ≤ 12) (hLc : Lc v = nI lc) (a b : Nat) : MetI l g yX12_isBeside cX12_isBeside 5 (some .boolean) 1 0 0 [.ref h0, .int (nI v), .int (nI a), .int (nI b)] [(h0, .inr (12, [.int i0, .ref b1, .int i2, .int i3, .int i4, .int i5, .ref b6, .ref b7, .ref b8, .ref b9, .ref b10, .ref b11, .ref b12, .ref b13, .ref b14, .ref b15, .ref b16, .ref b17, .int i18, .int i19, .int i20, .ref b21, .ref b22, .ref b23, .ref b24, .ref b25, .ref b26, .int i27, .ref b28, .ref b29, .ref b30, .ref b31, .ref b32, .ref b33, .ref b34, .ref b35, .ref b36, .int i37, .int i38, .int i39, .int i40, .int i41, .int i42, .int i43, .int i44, .int i45, .ref b46, .ref b47, .ref b48, .ref b49, .ref b50, .ref b51, .ref b52, .ref b53, .ref b54, .ref b55, .ref b56, .ref b57, .ref b58, .ref b59, .ref b60, .ref b61, .ref b62, .ref b63])), (b7, .inl (g.2.1 1, 11, .inl Lc)), (b12, .inl (g.2.1 1, 132, .inl La)), (b13, .inl (g.2.1 1, 132, .inl Lb)), (b17, .inl (g.2.1 3, 132, .inl Lo))] (fun r u => (¬ r = 0 → nbr La Lb Lo v lc a b) ∧ u = [(h0, .inr (12, [.int i0, .ref b1, .int i2, .int i3, .int i4, .int i5, .ref b6, .ref b7, .ref b8, .ref b9, .ref b10, .ref b11, .ref b12, .ref b13, .ref b14, .ref b15, .ref b16, .ref b17, .int i18, .int i19, .int i20, .ref b21, .ref b22, .ref b23, .ref b24, .ref b25, .ref b26, .int i27, .ref b28, .ref b29, .ref b30, .ref b31, .ref b32, .ref b33, .ref b34, .ref b35, .ref b36, .int i37, .int i38, .int i39, .int i40, .int i41, .int i42, .int i43, .int i44, .int i45, .ref b46, .ref b47, .ref b48, .ref b49, .ref b50, .ref b51, .ref b52, .ref b53, .ref b54, .ref b55, .ref b56, .ref b57, .ref b58, .ref b59, .ref b60, .ref b61, .ref b62, .ref b63])), (b7, .inl (g.2.1 1, 11, .inl Lc)), (b12, .inl (g.2.1 1, 132, .inl La)), (b13, .inl (g.2.1 1, 132, .inl Lb)), (b17, .inl (g.2.1 3, 132, .inl Lo))]) := by
  refine MetI.of (own := RX12) rfl (by decide) (Nat.le_of_ble_eq_true rfl) ?_
  intro p e s m below meth c A ls args Q hQ X hr hin hW hl
  have hx := X.1
  have hb := X.2.1
  have hl : lv_has ls 5 [(0, .ref h0), (1, .int (nI v)), (2, .int (nI a)), (3, .int (nI b))] := hl
  refine lv_iconst (v := 0) (pc := 0) hx hb dX12_isBeside_0 (by decide) ?_
  refine lv_istore (lv' := [(4, .int 0), (0, .ref h0), (1, .int (nI v)), (2, .int (nI a)), (3, .int (nI b))]) (pc := 1) hx hb dX12_isBeside_1 hl (by decide) rfl (fun ls hl => ?_)
  have loop1 : ∀ (fu : Nat) (i : Nat), (lc < fu + i) → (i ≤ lc) → ∀ (H : Heap) (locs : List Loc) (ls : Array Slot), WD g A s H locs [(h0, .inr (12, [.int i0, .ref b1, .int i2, .int i3, .int i4, .int i5, .ref b6, .ref b7, .ref b8, .ref b9, .ref b10, .ref b11, .ref b12, .ref b13, .ref b14, .ref b15, .ref b16, .ref b17, .int i18, .int i19, .int i20, .ref b21, .ref b22, .ref b23, .ref b24, .ref b25, .ref b26, .int i27, .ref b28, .ref b29, .ref b30, .ref b31, .ref b32, .ref b33, .ref b34, .ref b35, .ref b36, .int i37, .int i38, .int i39, .int i40, .int i41, .int i42, .int i43, .int i44, .int i45, .ref b46, .ref b47, .ref b48, .ref b49, .ref b50, .ref b51, .ref b52, .ref b53, .ref b54, .ref b55, .ref b56, .ref b57, .ref b58, .ref b59, .ref b60, .ref b61, .ref b62, .ref b63])), (b7, .inl (g.2.1 1, 11, .inl Lc)), (b12, .inl (g.2.1 1, 132, .inl La)), (b13, .inl (g.2.1 1, 132, .inl Lb)), (b17, .inl (g.2.1 3, 132, .inl Lo))] → lv_has ls 5 [(0, .ref h0), (1, .int (nI v)), (2, .int (nI a)), (3, .int (nI b)), (4, .int (nI i))] → W p l e (RM 1 0 0) s m args below meth c H locs 0 0 Q (F0 m 3 ls []) := by
    intro fu
    induction fu with
    | zero =>
      intro i hm hi
      exact absurd hm (by omega)
    | succ fu ih1 =>
      intro i hm hi H locs ls hW hl
      refine lv_iload (pc := 3) hx hb dX12_isBeside_3 (lv_at hl 4 rfl) ?_
      refine lv_aload_n (pc := 5) hx hb dX12_isBeside_5 rfl (lv_at hl 0 rfl) ?_
      refine r_get X hW 0 ciX12 7 rfl (by decide) m_1238 rfl rfl dX12_isBeside_6 ?_
      refine lv_iload_n (pc := 9) hx hb dX12_isBeside_9 rfl (lv_at hl 1 rfl) ?_
      refine r_iald X hW 1 rfl (vp_in_nI (by omega) (by decide)) dX12_isBeside_10 ?_
      refine lv_topi (fun uv1 euv1 => ?_)
      obtain rfl : uv1 = nI lc := euv1.trans (by rw [nI_clamp (by omega)]; exact hLc)
      refine lv_icmp_ge (tgt := 53) (pc := 11) hx hb dX12_isBeside_11 rfl (fun c2 => ?_) (fun c2 => ?_)
      · refine lv_iconst (v := 0) (pc := 53) hx hb dX12_isBeside_53 (by decide) ?_
        exact e_z X hQ hr hW (u := [(h0, .inr (12, [.int i0, .ref b1, .int i2, .int i3, .int i4, .int i5, .ref b6, .ref b7, .ref b8, .ref b9, .ref b10, .ref b11, .ref b12, .ref b13, .ref b14, .ref b15, .ref b16, .ref b17, .int i18, .int i19, .int i20, .ref b21, .ref b22, .ref b23, .ref b24, .ref b25, .ref b26, .int i27, .ref b28, .ref b29, .ref b30, .ref b31, .ref b32, .ref b33, .ref b34, .ref b35, .ref b36, .int i37, .int i38, .int i39, .int i40, .int i41, .int i42, .int i43, .int i44, .int i45, .ref b46, .ref b47, .ref b48, .ref b49, .ref b50, .ref b51, .ref b52, .ref b53, .ref b54, .ref b55, .ref b56, .ref b57, .ref b58, .ref b59, .ref b60, .ref b61, .ref b62, .ref b63])), (b7, .inl (g.2.1 1, 11, .inl Lc)), (b12, .inl (g.2.1 1, 132, .inl La)), (b13, .inl (g.2.1 1, 132, .inl Lb)), (b17, .inl (g.2.1 3, 132, .inl Lo))]) rfl [0, 1, 2, 3, 4] rfl rfl (⟨fun q => absurd rfl q, rfl⟩) ⟨Nat.le_of_ble_eq_true rfl, Nat.le_of_ble_eq_true rfl⟩ dX12_isBeside_54
      · have hil : i < lc := ge_f (by omega) (by omega) c2
        refine lv_aload_n (pc := 14) hx hb dX12_isBeside_14 rfl (lv_at hl 0 rfl) ?_
        refine r_get X hW 0 ciX12 17 rfl (by decide) m_1248 rfl rfl dX12_isBeside_15 ?_
        refine lv_bipush (v := 12) (pc := 18) hx hb dX12_isBeside_18 (by decide) ?_
        refine lv_iload_n (pc := 20) hx hb dX12_isBeside_20 rfl (lv_at hl 1 rfl) ?_
        refine lv_imul (pc := 21) hx hb dX12_isBeside_21 ?_
        refine lv_topi (fun uv3 euv3 => ?_)
        obtain rfl : uv3 = nI (12 * v) := euv3.trans (pk_mul _ _)
        refine lv_iload (pc := 22) hx hb dX12_isBeside_22 (lv_at hl 4 rfl) ?_
        refine lv_iadd (pc := 24) hx hb dX12_isBeside_24 ?_
        refine lv_topi (fun uv4 euv4 => ?_)
        obtain rfl : uv4 = nI (12 * v + i) := euv4.trans (nI_add _ _)
        refine r_zald X hW 4 rfl (vp_in_nI (by omega) (by decide)) dX12_isBeside_25 ?_
        refine lv_topi (fun uv5 euv5 => ?_)
        obtain rfl : uv5 = Lo (12 * v + i) := euv5.trans (by rw [nI_clamp (by omega)])
        refine lv_if_ne (tgt := 47) (pc := 26) hx hb dX12_isBeside_26 rfl (fun c6 => ?_) (fun c6 => ?_)
        · refine lv_iinc (v := nI (i + 1)) (lv' := [(4, .int (nI (i + 1))), (0, .ref h0), (1, .int (nI v)), (2, .int (nI a)), (3, .int (nI b))]) (pc := 47) hx hb dX12_isBeside_47 hl (k := 4) rfl ((nI_succ i).symm) (by decide) rfl (fun ls hl => ?_)
          refine lv_goto (tgt := 3) (pc := 50) hx hb dX12_isBeside_50 rfl ?_
          have hW : WD g A s _ _ [(h0, .inr (12, [.int i0, .ref b1, .int i2, .int i3, .int i4, .int i5, .ref b6, .ref b7, .ref b8, .ref b9, .ref b10, .ref b11, .ref b12, .ref b13, .ref b14, .ref b15, .ref b16, .ref b17, .int i18, .int i19, .int i20, .ref b21, .ref b22, .ref b23, .ref b24, .ref b25, .ref b26, .int i27, .ref b28, .ref b29, .ref b30, .ref b31, .ref b32, .ref b33, .ref b34, .ref b35, .ref b36, .int i37, .int i38, .int i39, .int i40, .int i41, .int i42, .int i43, .int i44, .int i45, .ref b46, .ref b47, .ref b48, .ref b49, .ref b50, .ref b51, .ref b52, .ref b53, .ref b54, .ref b55, .ref b56, .ref b57, .ref b58, .ref b59, .ref b60, .ref b61, .ref b62, .ref b63])), (b7, .inl (g.2.1 1, 11, .inl Lc)), (b12, .inl (g.2.1 1, 132, .inl La)), (b13, .inl (g.2.1 1, 132, .inl Lb)), (b17, .inl (g.2.1 3, 132, .inl Lo))] := hW.pick [0, 1, 2, 3, 4] rfl rfl
          exact ih1 (i + 1) (by omega) (by omega) _ _ _ hW (lv_sub hl [1, 2, 3, 4, 0] rfl)
        · have h_o := c6
          refine lv_aload_n (pc := 29) hx hb dX12_isBeside_29 rfl (lv_at hl 0 rfl) ?_
          refine lv_bipush (v := 12) (pc := 30) hx hb dX12_isBeside_30 (by decide) ?_
          refine lv_iload_n (pc := 32) hx hb dX12_isBeside_32 rfl (lv_at hl 1 rfl) ?_
          refine lv_imul (pc := 33) hx hb dX12_isBeside_33 ?_
          refine lv_topi (fun uv7 euv7 => ?_)
          obtain rfl : uv7 = nI (12 * v) := euv7.trans (pk_mul _ _)
          refine lv_iload (pc := 34) hx hb dX12_isBeside_34 (lv_at hl 4 rfl) ?_
          refine lv_iadd (pc := 36) hx hb dX12_isBeside_36 ?_
          refine lv_topi (fun uv8 euv8 => ?_)
          obtain rfl : uv8 = nI (12 * v + i) := euv8.trans (nI_add _ _)
          refine lv_iload_n (pc := 37) hx hb dX12_isBeside_37 rfl (lv_at hl 2 rfl) ?_
          refine lv_iload_n (pc := 38) hx hb dX12_isBeside_38 rfl (lv_at hl 3 rfl) ?_
          refine c_Vi (pc := 39) (As := [.int (nI (12 * v + i)), .int (nI a), .int (nI b)]) (rest := []) (wr := [(b7, .inl (g.2.1 1, 11, .inl Lc))]) X hW 0 ciX12 rfl (C_X12_joinsG l g h0 b1 b6 b7 b8 b9 b10 b11 b12 b13 b14 b15 b16 b17 b21 b22 b23 b24 b25 b26 b28 b29 b30 b31 b32 b33 b34 b35 b36 b46 b47 b48 b49 b50 b51 b52 b53 b54 b55 b56 b57 b58 b59 b60 b61 b62 b63 i0 i2 i3 i4 i5 i18 i19 i20 i27 i37 i38 i39 i40 i41 i42 i43 i44 i45 La Lb Lo (12 * v + i) (by omega) (nI a) (nI b)) vX12_231 [0, 2, 3, 4] [1] rfl rfl rfl rfl rfl rfl hl.1 rfl (Nat.le_of_ble_eq_true rfl) ⟨Nat.le_of_ble_eq_true rfl, Nat.le_of_ble_eq_true rfl⟩ ⟨Nat.le_of_ble_eq_true rfl, Nat.le_of_ble_eq_true rfl⟩ dX12_isBeside_39 (fun r9 u9 H locs hq hW => ?_)
          obtain ⟨rfl, rfl⟩ := hq
          have hW : WD g A s _ _ [(b7, .inl (g.2.1 1, 11, .inl Lc)), (h0, .inr (12, [.int i0, .ref b1, .int i2, .int i3, .int i4, .int i5, .ref b6, .ref b7, .ref b8, .ref b9, .ref b10, .ref b11, .ref b12, .ref b13, .ref b14, .ref b15, .ref b16, .ref b17, .int i18, .int i19, .int i20, .ref b21, .ref b22, .ref b23, .ref b24, .ref b25, .ref b26, .int i27, .ref b28, .ref b29, .ref b30, .ref b31, .ref b32, .ref b33, .ref b34, .ref b35, .ref b36, .int i37, .int i38, .int i39, .int i40, .int i41, .int i42, .int i43, .int i44, .int i45, .ref b46, .ref b47, .ref b48, .ref b49, .ref b50, .ref b51, .ref b52, .ref b53, .ref b54, .ref b55, .ref b56, .ref b57, .ref b58, .ref b59, .ref b60, .ref b61, .ref b62, .ref b63])), (b12, .inl (g.2.1 1, 132, .inl La)), (b13, .inl (g.2.1 1, 132, .inl Lb)), (b17, .inl (g.2.1 3, 132, .inl Lo))] := hW
          refine lv_if_eq (tgt := 47) (pc := 42) hx hb dX12_isBeside_42 rfl (fun c10 => ?_) (fun c10 => ?_)
          · refine lv_iinc (v := nI (i + 1)) (lv' := [(4, .int (nI (i + 1))), (0, .ref h0), (1, .int (nI v)), (2, .int (nI a)), (3, .int (nI b))]) (pc := 47) hx hb dX12_isBeside_47 hl (k := 4) rfl ((nI_succ i).symm) (by decide) rfl (fun ls hl => ?_)
            refine lv_goto (tgt := 3) (pc := 50) hx hb dX12_isBeside_50 rfl ?_
            have hW : WD g A s _ _ [(h0, .inr (12, [.int i0, .ref b1, .int i2, .int i3, .int i4, .int i5, .ref b6, .ref b7, .ref b8, .ref b9, .ref b10, .ref b11, .ref b12, .ref b13, .ref b14, .ref b15, .ref b16, .ref b17, .int i18, .int i19, .int i20, .ref b21, .ref b22, .ref b23, .ref b24, .ref b25, .ref b26, .int i27, .ref b28, .ref b29, .ref b30, .ref b31, .ref b32, .ref b33, .ref b34, .ref b35, .ref b36, .int i37, .int i38, .int i39, .int i40, .int i41, .int i42, .int i43, .int i44, .int i45, .ref b46, .ref b47, .ref b48, .ref b49, .ref b50, .ref b51, .ref b52, .ref b53, .ref b54, .ref b55, .ref b56, .ref b57, .ref b58, .ref b59, .ref b60, .ref b61, .ref b62, .ref b63])), (b7, .inl (g.2.1 1, 11, .inl Lc)), (b12, .inl (g.2.1 1, 132, .inl La)), (b13, .inl (g.2.1 1, 132, .inl Lb)), (b17, .inl (g.2.1 3, 132, .inl Lo))] := hW.pick [1, 0, 2, 3, 4] rfl rfl
            exact ih1 (i + 1) (by omega) (by omega) _ _ _ hW (lv_sub hl [1, 2, 3, 4, 0] rfl)
          · refine lv_iconst (v := 1) (pc := 45) hx hb dX12_isBeside_45 (by decide) ?_
            exact e_z X hQ hr hW (u := [(h0, .inr (12, [.int i0, .ref b1, .int i2, .int i3, .int i4, .int i5, .ref b6, .ref b7, .ref b8, .ref b9, .ref b10, .ref b11, .ref b12, .ref b13, .ref b14, .ref b15, .ref b16, .ref b17, .int i18, .int i19, .int i20, .ref b21, .ref b22, .ref b23, .ref b24, .ref b25, .ref b26, .int i27, .ref b28, .ref b29, .ref b30, .ref b31, .ref b32, .ref b33, .ref b34, .ref b35, .ref b36, .int i37, .int i38, .int i39, .int i40, .int i41, .int i42, .int i43, .int i44, .int i45, .ref b46, .ref b47, .ref b48, .ref b49, .ref b50, .ref b51, .ref b52, .ref b53, .ref b54, .ref b55, .ref b56, .ref b57, .ref b58, .ref b59, .ref b60, .ref b61, .ref b62, .ref b63])), (b7, .inl (g.2.1 1, 11, .inl Lc)), (b12, .inl (g.2.1 1, 132, .inl La)), (b13, .inl (g.2.1 1, 132, .inl Lb)), (b17, .inl (g.2.1 3, 132, .inl Lo))]) rfl [1, 0, 2, 3, 4] rfl rfl (⟨fun _ => ⟨i, hil, h_o, jnv_e h_o c10⟩, rfl⟩) ⟨Nat.le_of_ble_eq_true rfl, Nat.le_of_ble_eq_true rfl⟩ dX12_isBeside_46
  exact loop1 (lc + 1) 0 (by omega) (Nat.zero_le _) _ _ _ hW (lv_sub hl [1, 2, 3, 4, 0] rfl)

set_option maxHeartbeats 4000000 in
set_option maxRecDepth 100000 in
theorem C_X12_isTreeG (l : Launch) (g : GG) (h0 b1 b6 b7 b8 b9 b10 b11 b12 b13 b14 b15 b16 b17 b21 b22 b23 b24 b25 b26 b28 b29 b30 b31 b32 b33 b34 b35 b36 b46 b47 b48 b49 b50 b51 b52 b53 b54 b55 b56 b57 b58 b59 b60 b61 b62 b63 : Nat) (i0 i2 i3 i4 i5 i18 i19 i20 i27 i37 i38 i39 i40 i41 i42 i43 i44 i45 : Int32) (P Lc La Lb Lo : Nat → Int32) (v lc pp : Nat) (hv : v ≤ 10) (hlc : lc ≤ 12) (hpp : pp ≤ 7) (hP : P v = nI pp) (hLc : Lc v = nI lc) (hLA : in6 La) (hLB : in6 Lb) : MetI l g yX12_isTree cX12_isTree 4 (some .boolean) 2 0 0 [.ref h0, .int (nI v)] [(h0, .inr (12, [.int i0, .ref b1, .int i2, .int i3, .int i4, .int i5, .ref b6, .ref b7, .ref b8, .ref b9, .ref b10, .ref b11, .ref b12, .ref b13, .ref b14, .ref b15, .ref b16, .ref b17, .int i18, .int i19, .int i20, .ref b21, .ref b22, .ref b23, .ref b24, .ref b25, .ref b26, .int i27, .ref b28, .ref b29, .ref b30, .ref b31, .ref b32, .ref b33, .ref b34, .ref b35, .ref b36, .int i37, .int i38, .int i39, .int i40, .int i41, .int i42, .int i43, .int i44, .int i45, .ref b46, .ref b47, .ref b48, .ref b49, .ref b50, .ref b51, .ref b52, .ref b53, .ref b54, .ref b55, .ref b56, .ref b57, .ref b58, .ref b59, .ref b60, .ref b61, .ref b62, .ref b63])), (b6, .inl (g.2.1 1, 11, .inl P)), (b7, .inl (g.2.1 1, 11, .inl Lc)), (b12, .inl (g.2.1 1, 132, .inl La)), (b13, .inl (g.2.1 1, 132, .inl Lb)), (b17, .inl (g.2.1 3, 132, .inl Lo))] (fun r u => (¬ r = 0 → 1 ≤ pp ∧ (∀ S : Nat → Prop, rclo La Lb Lo v lc pp S → ∀ o : Nat, o < pp → S o) ∧ ct2 Lo v lc + 1 = pp) ∧ u = [(h0, .inr (12, [.int i0, .ref b1, .int i2, .int i3, .int i4, .int i5, .ref b6, .ref b7, .ref b8, .ref b9, .ref b10, .ref b11, .ref b12, .ref b13, .ref b14, .ref b15, .ref b16, .ref b17, .int i18, .int i19, .int i20, .ref b21, .ref b22, .ref b23, .ref b24, .ref b25, .ref b26, .int i27, .ref b28, .ref b29, .ref b30, .ref b31, .ref b32, .ref b33, .ref b34, .ref b35, .ref b36, .int i37, .int i38, .int i39, .int i40, .int i41, .int i42, .int i43, .int i44, .int i45, .ref b46, .ref b47, .ref b48, .ref b49, .ref b50, .ref b51, .ref b52, .ref b53, .ref b54, .ref b55, .ref b56, .ref b57, .ref b58, .ref b59, .ref b60, .ref b61, .ref b62, .ref b63])), (b6, .inl (g.2.1 1, 11, .inl P)), (b7, .inl (g.2.1 1, 11, .inl Lc)), (b12, .inl (g.2.1 1, 132, .inl La)), (b13, .inl (g.2.1 1, 132, .inl Lb)), (b17, .inl (g.2.1 3, 132, .inl Lo))]) := by
  refine MetI.of (own := RX12) rfl (by decide) (Nat.le_of_ble_eq_true rfl) ?_
  intro p e s m below meth c A ls args Q hQ X hr hin hW hl
  have hx := X.1
  have hb := X.2.1
  have hl : lv_has ls 4 [(0, .ref h0), (1, .int (nI v))] := hl
  refine lv_iconst (v := 0) (pc := 0) hx hb dX12_isTree_0 (by decide) ?_
  refine lv_istore_n (lv' := [(2, .int 0), (0, .ref h0), (1, .int (nI v))]) (pc := 1) hx hb dX12_isTree_1 rfl hl (by decide) rfl (fun ls hl => ?_)
  refine lv_iconst (v := 0) (pc := 2) hx hb dX12_isTree_2 (by decide) ?_
  refine lv_istore_n (lv' := [(3, .int 0), (2, .int 0), (0, .ref h0), (1, .int (nI v))]) (pc := 3) hx hb dX12_isTree_3 rfl hl (by decide) rfl (fun ls hl => ?_)
  have loop1 : ∀ (fu : Nat) (i : Nat) (cn : Int32), (lc < fu + i) → (i ≤ lc) → (cn = nI (ct2 Lo v i)) → ∀ (H : Heap) (locs : List Loc) (ls : Array Slot), WD g A s H locs [(h0, .inr (12, [.int i0, .ref b1, .int i2, .int i3, .int i4, .int i5, .ref b6, .ref b7, .ref b8, .ref b9, .ref b10, .ref b11, .ref b12, .ref b13, .ref b14, .ref b15, .ref b16, .ref b17, .int i18, .int i19, .int i20, .ref b21, .ref b22, .ref b23, .ref b24, .ref b25, .ref b26, .int i27, .ref b28, .ref b29, .ref b30, .ref b31, .ref b32, .ref b33, .ref b34, .ref b35, .ref b36, .int i37, .int i38, .int i39, .int i40, .int i41, .int i42, .int i43, .int i44, .int i45, .ref b46, .ref b47, .ref b48, .ref b49, .ref b50, .ref b51, .ref b52, .ref b53, .ref b54, .ref b55, .ref b56, .ref b57, .ref b58, .ref b59, .ref b60, .ref b61, .ref b62, .ref b63])), (b6, .inl (g.2.1 1, 11, .inl P)), (b7, .inl (g.2.1 1, 11, .inl Lc)), (b12, .inl (g.2.1 1, 132, .inl La)), (b13, .inl (g.2.1 1, 132, .inl Lb)), (b17, .inl (g.2.1 3, 132, .inl Lo))] → lv_has ls 4 [(0, .ref h0), (1, .int (nI v)), (2, .int cn), (3, .int (nI i))] → W p l e (RM 2 0 0) s m args below meth c H locs 0 0 Q (F0 m 4 ls []) := by
    intro fu
    induction fu with
    | zero =>
      intro i cn hm hi hct
      exact absurd hm (by omega)
    | succ fu ih1 =>
      intro i cn hm hi hct H locs ls hW hl
      refine lv_iload_n (pc := 4) hx hb dX12_isTree_4 rfl (lv_at hl 3 rfl) ?_
      refine lv_aload_n (pc := 5) hx hb dX12_isTree_5 rfl (lv_at hl 0 rfl) ?_
      refine r_get X hW 0 ciX12 7 rfl (by decide) m_1238 rfl rfl dX12_isTree_6 ?_
      refine lv_iload_n (pc := 9) hx hb dX12_isTree_9 rfl (lv_at hl 1 rfl) ?_
      refine r_iald X hW 2 rfl (vp_in_nI (by omega) (by decide)) dX12_isTree_10 ?_
      refine lv_topi (fun uv1 euv1 => ?_)
      obtain rfl : uv1 = nI lc := euv1.trans (by rw [nI_clamp (by omega)]; exact hLc)
      refine lv_icmp_ge (tgt := 42) (pc := 11) hx hb dX12_isTree_11 rfl (fun c2 => ?_) (fun c2 => ?_)
      · have hie : i = lc := Nat.le_antisymm hi (ge_t (by omega) (by omega) c2)
        refine lv_iload_n (pc := 42) hx hb dX12_isTree_42 rfl (lv_at hl 2 rfl) ?_
        refine lv_aload_n (pc := 43) hx hb dX12_isTree_43 rfl (lv_at hl 0 rfl) ?_
        refine r_get X hW 0 ciX12 6 rfl (by decide) m_1237 rfl rfl dX12_isTree_44 ?_
        refine lv_iload_n (pc := 47) hx hb dX12_isTree_47 rfl (lv_at hl 1 rfl) ?_
        refine r_iald X hW 1 rfl (vp_in_nI (by omega) (by decide)) dX12_isTree_48 ?_
        refine lv_topi (fun uv3 euv3 => ?_)
        obtain rfl : uv3 = nI pp := euv3.trans (by rw [nI_clamp (by omega)]; exact hP)
        refine lv_iconst (v := 1) (pc := 49) hx hb dX12_isTree_49 (by decide) ?_
        refine lv_isub (pc := 50) hx hb dX12_isTree_50 ?_
        refine lv_icmp_ne (tgt := 66) (pc := 51) hx hb dX12_isTree_51 rfl (fun c4 => ?_) (fun c4 => ?_)
        · refine lv_iconst (v := 0) (pc := 66) hx hb dX12_isTree_66 (by decide) ?_
          exact e_z X hQ hr hW (u := [(h0, .inr (12, [.int i0, .ref b1, .int i2, .int i3, .int i4, .int i5, .ref b6, .ref b7, .ref b8, .ref b9, .ref b10, .ref b11, .ref b12, .ref b13, .ref b14, .ref b15, .ref b16, .ref b17, .int i18, .int i19, .int i20, .ref b21, .ref b22, .ref b23, .ref b24, .ref b25, .ref b26, .int i27, .ref b28, .ref b29, .ref b30, .ref b31, .ref b32, .ref b33, .ref b34, .ref b35, .ref b36, .int i37, .int i38, .int i39, .int i40, .int i41, .int i42, .int i43, .int i44, .int i45, .ref b46, .ref b47, .ref b48, .ref b49, .ref b50, .ref b51, .ref b52, .ref b53, .ref b54, .ref b55, .ref b56, .ref b57, .ref b58, .ref b59, .ref b60, .ref b61, .ref b62, .ref b63])), (b6, .inl (g.2.1 1, 11, .inl P)), (b7, .inl (g.2.1 1, 11, .inl Lc)), (b12, .inl (g.2.1 1, 132, .inl La)), (b13, .inl (g.2.1 1, 132, .inl Lb)), (b17, .inl (g.2.1 3, 132, .inl Lo))]) rfl [0, 1, 2, 3, 4, 5] rfl rfl (⟨fun q => absurd rfl q, rfl⟩) ⟨Nat.le_of_ble_eq_true rfl, Nat.le_of_ble_eq_true rfl⟩ dX12_isTree_67
        · have h_c := c4
          refine lv_aload_n (pc := 54) hx hb dX12_isTree_54 rfl (lv_at hl 0 rfl) ?_
          refine lv_iload_n (pc := 55) hx hb dX12_isTree_55 rfl (lv_at hl 1 rfl) ?_
          refine c_Vi (pc := 56) (As := [.int (nI v)]) (rest := []) (wr := []) X hW 0 ciX12 rfl (C_X12_holdsAllG l g h0 b1 b6 b7 b8 b9 b10 b11 b12 b13 b14 b15 b16 b17 b21 b22 b23 b24 b25 b26 b28 b29 b30 b31 b32 b33 b34 b35 b36 b46 b47 b48 b49 b50 b51 b52 b53 b54 b55 b56 b57 b58 b59 b60 b61 b62 b63 i0 i2 i3 i4 i5 i18 i19 i20 i27 i37 i38 i39 i40 i41 i42 i43 i44 i45 P Lc La Lb Lo v lc pp hv hlc hpp hP hLc hLA hLB) vX12_349 [0, 1, 2, 3, 4, 5] [] rfl rfl rfl rfl rfl rfl hl.1 rfl (Nat.le_of_ble_eq_true rfl) ⟨Nat.le_of_ble_eq_true rfl, Nat.le_of_ble_eq_true rfl⟩ ⟨Nat.le_of_ble_eq_true rfl, Nat.le_of_ble_eq_true rfl⟩ dX12_isTree_56 (fun rH u9 H locs hq hW => ?_)
          obtain ⟨hh01, hh1, rfl⟩ := hq
          have hW : WD g A s _ _ [(h0, .inr (12, [.int i0, .ref b1, .int i2, .int i3, .int i4, .int i5, .ref b6, .ref b7, .ref b8, .ref b9, .ref b10, .ref b11, .ref b12, .ref b13, .ref b14, .ref b15, .ref b16, .ref b17, .int i18, .int i19, .int i20, .ref b21, .ref b22, .ref b23, .ref b24, .ref b25, .ref b26, .int i27, .ref b28, .ref b29, .ref b30, .ref b31, .ref b32, .ref b33, .ref b34, .ref b35, .ref b36, .int i37, .int i38, .int i39, .int i40, .int i41, .int i42, .int i43, .int i44, .int i45, .ref b46, .ref b47, .ref b48, .ref b49, .ref b50, .ref b51, .ref b52, .ref b53, .ref b54, .ref b55, .ref b56, .ref b57, .ref b58, .ref b59, .ref b60, .ref b61, .ref b62, .ref b63])), (b6, .inl (g.2.1 1, 11, .inl P)), (b7, .inl (g.2.1 1, 11, .inl Lc)), (b12, .inl (g.2.1 1, 132, .inl La)), (b13, .inl (g.2.1 1, 132, .inl Lb)), (b17, .inl (g.2.1 3, 132, .inl Lo))] := hW
          refine lv_if_eq (tgt := 66) (pc := 59) hx hb dX12_isTree_59 rfl (fun c5 => ?_) (fun c5 => ?_)
          · refine lv_iconst (v := 0) (pc := 66) hx hb dX12_isTree_66 (by decide) ?_
            exact e_z X hQ hr hW (u := [(h0, .inr (12, [.int i0, .ref b1, .int i2, .int i3, .int i4, .int i5, .ref b6, .ref b7, .ref b8, .ref b9, .ref b10, .ref b11, .ref b12, .ref b13, .ref b14, .ref b15, .ref b16, .ref b17, .int i18, .int i19, .int i20, .ref b21, .ref b22, .ref b23, .ref b24, .ref b25, .ref b26, .int i27, .ref b28, .ref b29, .ref b30, .ref b31, .ref b32, .ref b33, .ref b34, .ref b35, .ref b36, .int i37, .int i38, .int i39, .int i40, .int i41, .int i42, .int i43, .int i44, .int i45, .ref b46, .ref b47, .ref b48, .ref b49, .ref b50, .ref b51, .ref b52, .ref b53, .ref b54, .ref b55, .ref b56, .ref b57, .ref b58, .ref b59, .ref b60, .ref b61, .ref b62, .ref b63])), (b6, .inl (g.2.1 1, 11, .inl P)), (b7, .inl (g.2.1 1, 11, .inl Lc)), (b12, .inl (g.2.1 1, 132, .inl La)), (b13, .inl (g.2.1 1, 132, .inl Lb)), (b17, .inl (g.2.1 3, 132, .inl Lo))]) rfl [0, 1, 2, 3, 4, 5] rfl rfl (⟨fun q => absurd rfl q, rfl⟩) ⟨Nat.le_of_ble_eq_true rfl, Nat.le_of_ble_eq_true rfl⟩ dX12_isTree_67
          · refine lv_iconst (v := 1) (pc := 62) hx hb dX12_isTree_62 (by decide) ?_
            refine lv_goto (tgt := 67) (pc := 63) hx hb dX12_isTree_63 rfl ?_
            exact e_z X hQ hr hW (u := [(h0, .inr (12, [.int i0, .ref b1, .int i2, .int i3, .int i4, .int i5, .ref b6, .ref b7, .ref b8, .ref b9, .ref b10, .ref b11, .ref b12, .ref b13, .ref b14, .ref b15, .ref b16, .ref b17, .int i18, .int i19, .int i20, .ref b21, .ref b22, .ref b23, .ref b24, .ref b25, .ref b26, .int i27, .ref b28, .ref b29, .ref b30, .ref b31, .ref b32, .ref b33, .ref b34, .ref b35, .ref b36, .int i37, .int i38, .int i39, .int i40, .int i41, .int i42, .int i43, .int i44, .int i45, .ref b46, .ref b47, .ref b48, .ref b49, .ref b50, .ref b51, .ref b52, .ref b53, .ref b54, .ref b55, .ref b56, .ref b57, .ref b58, .ref b59, .ref b60, .ref b61, .ref b62, .ref b63])), (b6, .inl (g.2.1 1, 11, .inl P)), (b7, .inl (g.2.1 1, 11, .inl Lc)), (b12, .inl (g.2.1 1, 132, .inl La)), (b13, .inl (g.2.1 1, 132, .inl Lb)), (b17, .inl (g.2.1 3, 132, .inl Lo))]) rfl [0, 1, 2, 3, 4, 5] rfl rfl (⟨fun _ => (fun hx : 1 ≤ pp ∧ ∀ S : Nat → Prop, rclo La Lb Lo v lc pp S → ∀ o : Nat, o < pp → S o => ⟨hx.1, hx.2, by
      have hcl := ct2_le Lo v lc
      have h9 := h_c
      rw [hct, hie, nI_s1 hx.1] at h9
      have := (nI_eq (by omega) (by omega)).mp h9
      omega⟩) (hh1 (hh01.resolve_left c5)), rfl⟩) ⟨Nat.le_of_ble_eq_true rfl, Nat.le_of_ble_eq_true rfl⟩ dX12_isTree_67
      · have hil : i < lc := ge_f (by omega) (by omega) c2
        refine lv_iload_n (pc := 14) hx hb dX12_isTree_14 rfl (lv_at hl 2 rfl) ?_
        refine lv_aload_n (pc := 15) hx hb dX12_isTree_15 rfl (lv_at hl 0 rfl) ?_
        refine r_get X hW 0 ciX12 17 rfl (by decide) m_1248 rfl rfl dX12_isTree_16 ?_
        refine lv_bipush (v := 12) (pc := 19) hx hb dX12_isTree_19 (by decide) ?_
        refine lv_iload_n (pc := 21) hx hb dX12_isTree_21 rfl (lv_at hl 1 rfl) ?_
        refine lv_imul (pc := 22) hx hb dX12_isTree_22 ?_
        refine lv_topi (fun uv6 euv6 => ?_)
        obtain rfl : uv6 = nI (12 * v) := euv6.trans (pk_mul _ _)
        refine lv_iload_n (pc := 23) hx hb dX12_isTree_23 rfl (lv_at hl 3 rfl) ?_
        refine lv_iadd (pc := 24) hx hb dX12_isTree_24 ?_
        refine lv_topi (fun uv7 euv7 => ?_)
        obtain rfl : uv7 = nI (12 * v + i) := euv7.trans (nI_add _ _)
        refine r_zald X hW 5 rfl (vp_in_nI (by omega) (by decide)) dX12_isTree_25 ?_
        refine lv_topi (fun uv8 euv8 => ?_)
        obtain rfl : uv8 = Lo (12 * v + i) := euv8.trans (by rw [nI_clamp (by omega)])
        refine lv_if_eq (tgt := 33) (pc := 26) hx hb dX12_isTree_26 rfl (fun c9 => ?_) (fun c9 => ?_)
        · refine lv_iconst (v := 1) (pc := 33) hx hb dX12_isTree_33 (by decide) ?_
          refine lv_iadd (pc := 34) hx hb dX12_isTree_34 ?_
          refine lv_istore_n (lv' := [(2, .int (cn + 1)), (0, .ref h0), (1, .int (nI v)), (3, .int (nI i))]) (pc := 35) hx hb dX12_isTree_35 rfl hl (by decide) rfl (fun ls hl => ?_)
          refine lv_iinc (v := nI (i + 1)) (lv' := [(3, .int (nI (i + 1))), (2, .int (cn + 1)), (0, .ref h0), (1, .int (nI v))]) (pc := 36) hx hb dX12_isTree_36 hl (k := 3) rfl ((nI_succ i).symm) (by decide) rfl (fun ls hl => ?_)
          refine lv_goto (tgt := 4) (pc := 39) hx hb dX12_isTree_39 rfl ?_
          have hW : WD g A s _ _ [(h0, .inr (12, [.int i0, .ref b1, .int i2, .int i3, .int i4, .int i5, .ref b6, .ref b7, .ref b8, .ref b9, .ref b10, .ref b11, .ref b12, .ref b13, .ref b14, .ref b15, .ref b16, .ref b17, .int i18, .int i19, .int i20, .ref b21, .ref b22, .ref b23, .ref b24, .ref b25, .ref b26, .int i27, .ref b28, .ref b29, .ref b30, .ref b31, .ref b32, .ref b33, .ref b34, .ref b35, .ref b36, .int i37, .int i38, .int i39, .int i40, .int i41, .int i42, .int i43, .int i44, .int i45, .ref b46, .ref b47, .ref b48, .ref b49, .ref b50, .ref b51, .ref b52, .ref b53, .ref b54, .ref b55, .ref b56, .ref b57, .ref b58, .ref b59, .ref b60, .ref b61, .ref b62, .ref b63])), (b6, .inl (g.2.1 1, 11, .inl P)), (b7, .inl (g.2.1 1, 11, .inl Lc)), (b12, .inl (g.2.1 1, 132, .inl La)), (b13, .inl (g.2.1 1, 132, .inl Lb)), (b17, .inl (g.2.1 3, 132, .inl Lo))] := hW.pick [0, 1, 2, 3, 4, 5] rfl rfl
          exact ih1 (i + 1) (cn + 1) (by omega) (by omega) (by rw [ct2_s1 c9, hct, nI_1]) _ _ _ hW (lv_sub hl [2, 3, 1, 0] rfl)
        · refine lv_iconst (v := 0) (pc := 29) hx hb dX12_isTree_29 (by decide) ?_
          refine lv_goto (tgt := 34) (pc := 30) hx hb dX12_isTree_30 rfl ?_
          refine lv_iadd (pc := 34) hx hb dX12_isTree_34 ?_
          refine lv_istore_n (lv' := [(2, .int (cn + 0)), (0, .ref h0), (1, .int (nI v)), (3, .int (nI i))]) (pc := 35) hx hb dX12_isTree_35 rfl hl (by decide) rfl (fun ls hl => ?_)
          refine lv_iinc (v := nI (i + 1)) (lv' := [(3, .int (nI (i + 1))), (2, .int (cn + 0)), (0, .ref h0), (1, .int (nI v))]) (pc := 36) hx hb dX12_isTree_36 hl (k := 3) rfl ((nI_succ i).symm) (by decide) rfl (fun ls hl => ?_)
          refine lv_goto (tgt := 4) (pc := 39) hx hb dX12_isTree_39 rfl ?_
          have hW : WD g A s _ _ [(h0, .inr (12, [.int i0, .ref b1, .int i2, .int i3, .int i4, .int i5, .ref b6, .ref b7, .ref b8, .ref b9, .ref b10, .ref b11, .ref b12, .ref b13, .ref b14, .ref b15, .ref b16, .ref b17, .int i18, .int i19, .int i20, .ref b21, .ref b22, .ref b23, .ref b24, .ref b25, .ref b26, .int i27, .ref b28, .ref b29, .ref b30, .ref b31, .ref b32, .ref b33, .ref b34, .ref b35, .ref b36, .int i37, .int i38, .int i39, .int i40, .int i41, .int i42, .int i43, .int i44, .int i45, .ref b46, .ref b47, .ref b48, .ref b49, .ref b50, .ref b51, .ref b52, .ref b53, .ref b54, .ref b55, .ref b56, .ref b57, .ref b58, .ref b59, .ref b60, .ref b61, .ref b62, .ref b63])), (b6, .inl (g.2.1 1, 11, .inl P)), (b7, .inl (g.2.1 1, 11, .inl Lc)), (b12, .inl (g.2.1 1, 132, .inl La)), (b13, .inl (g.2.1 1, 132, .inl Lb)), (b17, .inl (g.2.1 3, 132, .inl Lo))] := hW.pick [0, 1, 2, 3, 4, 5] rfl rfl
          exact ih1 (i + 1) (cn + 0) (by omega) (by omega) (by rw [ct2_s0 c9, hct, show nI (ct2 Lo v i) + 0 = nI (ct2 Lo v i) from Int32.add_zero _]) _ _ _ hW (lv_sub hl [2, 3, 1, 0] rfl)
  exact loop1 (lc + 1) 0 0 (by omega) (Nat.zero_le _) rfl _ _ _ hW (lv_sub hl [2, 3, 1, 0] rfl)

set_option maxHeartbeats 40000000 in
set_option maxRecDepth 100000 in
theorem C_X12_layTree_step (l : Launch) (g : GG) (h0 b1 b6 b7 b8 b9 b10 b11 b12 b13 b14 b15 b16 b17 b21 b22 b23 b24 b25 b26 b28 b29 b30 b31 b32 b33 b34 b35 b36 b46 b47 b48 b49 b50 b51 b52 b53 b54 b55 b56 b57 b58 b59 b60 b61 b62 b63 : Nat) (i0 i2 i3 i4 i5 i18 i19 i20 i27 i37 i38 i39 i40 i41 i42 i43 i44 i45 : Int32) (P Lc La Lb Lo : Nat → Int32) (v lc pp : Nat) (hv : v ≤ 10) (hlc : lc ≤ 12) (hpp : pp ≤ 7) (hP : P v = nI pp) (hLc : Lc v = nI lc) (dd f : Nat) (hdd : 6 ≤ dd) (ih : ∀ (B BM TM : Nat → Int32) (on : Nat) (ab : Int32) (Wr : Nat → Prop), TPl (nbr La Lb Lo v lc) pp f on ab Wr → bd7 B 49 → bd7 BM 7 → MetV l g yX12_layTree cX12_layTree 6 none dd 0 0 [.ref h0, .int (nI v), .int (nI on), .int ab] [(h0, .inr (12, [.int i0, .ref b1, .int i2, .int i3, .int i4, .int i5, .ref b6, .ref b7, .ref b8, .ref b9, .ref b10, .ref b11, .ref b12, .ref b13, .ref b14, .ref b15, .ref b16, .ref b17, .int i18, .int i19, .int i20, .ref b21, .ref b22, .ref b23, .ref b24, .ref b25, .ref b26, .int i27, .ref b28, .ref b29, .ref b30, .ref b31, .ref b32, .ref b33, .ref b34, .ref b35, .ref b36, .int i37, .int i38, .int i39, .int i40, .int i41, .int i42, .int i43, .int i44, .int i45, .ref b46, .ref b47, .ref b48, .ref b49, .ref b50, .ref b51, .ref b52, .ref b53, .ref b54, .ref b55, .ref b56, .ref b57, .ref b58, .ref b59, .ref b60, .ref b61, .ref b62, .ref b63])), (b6, .inl (g.2.1 1, 11, .inl P)), (b7, .inl (g.2.1 1, 11, .inl Lc)), (b12, .inl (g.2.1 1, 132, .inl La)), (b13, .inl (g.2.1 1, 132, .inl Lb)), (b17, .inl (g.2.1 3, 132, .inl Lo)), (b55, .inl (g.2.1 1, 49, .inl B)), (b56, .inl (g.2.1 1, 7, .inl BM)), (b57, .inl (g.2.1 1, 7, .inl TM))] (fun u => ∃ B' BM' TM' : Nat → Int32, bd7 B' 49 ∧ bd7 BM' 7 ∧ (∀ y : Nat, ¬ Wr y → BM' y = BM y) ∧ u = [(h0, .inr (12, [.int i0, .ref b1, .int i2, .int i3, .int i4, .int i5, .ref b6, .ref b7, .ref b8, .ref b9, .ref b10, .ref b11, .ref b12, .ref b13, .ref b14, .ref b15, .ref b16, .ref b17, .int i18, .int i19, .int i20, .ref b21, .ref b22, .ref b23, .ref b24, .ref b25, .ref b26, .int i27, .ref b28, .ref b29, .ref b30, .ref b31, .ref b32, .ref b33, .ref b34, .ref b35, .ref b36, .int i37, .int i38, .int i39, .int i40, .int i41, .int i42, .int i43, .int i44, .int i45, .ref b46, .ref b47, .ref b48, .ref b49, .ref b50, .ref b51, .ref b52, .ref b53, .ref b54, .ref b55, .ref b56, .ref b57, .ref b58, .ref b59, .ref b60, .ref b61, .ref b62, .ref b63])), (b6, .inl (g.2.1 1, 11, .inl P)), (b7, .inl (g.2.1 1, 11, .inl Lc)), (b12, .inl (g.2.1 1, 132, .inl La)), (b13, .inl (g.2.1 1, 132, .inl Lb)), (b17, .inl (g.2.1 3, 132, .inl Lo)), (b55, .inl (g.2.1 1, 49, .inl B')), (b56, .inl (g.2.1 1, 7, .inl BM')), (b57, .inl (g.2.1 1, 7, .inl TM'))])) (B0 BM0 TM0 : Nat → Int32) (on : Nat) (ab : Int32) (Wr : Nat → Prop) (hTP : TPl (nbr La Lb Lo v lc) pp (f + 1) on ab Wr) (hon : on ≤ 6) (hB0 : bd7 B0 49) (hBM0 : bd7 BM0 7) : MetV l g yX12_layTree cX12_layTree 6 none (dd + 1) 0 0 [.ref h0, .int (nI v), .int (nI on), .int ab] [(h0, .inr (12, [.int i0, .ref b1, .int i2, .int i3, .int i4, .int i5, .ref b6, .ref b7, .ref b8, .ref b9, .ref b10, .ref b11, .ref b12, .ref b13, .ref b14, .ref b15, .ref b16, .ref b17, .int i18, .int i19, .int i20, .ref b21, .ref b22, .ref b23, .ref b24, .ref b25, .ref b26, .int i27, .ref b28, .ref b29, .ref b30, .ref b31, .ref b32, .ref b33, .ref b34, .ref b35, .ref b36, .int i37, .int i38, .int i39, .int i40, .int i41, .int i42, .int i43, .int i44, .int i45, .ref b46, .ref b47, .ref b48, .ref b49, .ref b50, .ref b51, .ref b52, .ref b53, .ref b54, .ref b55, .ref b56, .ref b57, .ref b58, .ref b59, .ref b60, .ref b61, .ref b62, .ref b63])), (b6, .inl (g.2.1 1, 11, .inl P)), (b7, .inl (g.2.1 1, 11, .inl Lc)), (b12, .inl (g.2.1 1, 132, .inl La)), (b13, .inl (g.2.1 1, 132, .inl Lb)), (b17, .inl (g.2.1 3, 132, .inl Lo)), (b55, .inl (g.2.1 1, 49, .inl B0)), (b56, .inl (g.2.1 1, 7, .inl BM0)), (b57, .inl (g.2.1 1, 7, .inl TM0))] (fun u => ∃ B' BM' TM' : Nat → Int32, bd7 B' 49 ∧ bd7 BM' 7 ∧ (∀ y : Nat, ¬ Wr y → BM' y = BM0 y) ∧ u = [(h0, .inr (12, [.int i0, .ref b1, .int i2, .int i3, .int i4, .int i5, .ref b6, .ref b7, .ref b8, .ref b9, .ref b10, .ref b11, .ref b12, .ref b13, .ref b14, .ref b15, .ref b16, .ref b17, .int i18, .int i19, .int i20, .ref b21, .ref b22, .ref b23, .ref b24, .ref b25, .ref b26, .int i27, .ref b28, .ref b29, .ref b30, .ref b31, .ref b32, .ref b33, .ref b34, .ref b35, .ref b36, .int i37, .int i38, .int i39, .int i40, .int i41, .int i42, .int i43, .int i44, .int i45, .ref b46, .ref b47, .ref b48, .ref b49, .ref b50, .ref b51, .ref b52, .ref b53, .ref b54, .ref b55, .ref b56, .ref b57, .ref b58, .ref b59, .ref b60, .ref b61, .ref b62, .ref b63])), (b6, .inl (g.2.1 1, 11, .inl P)), (b7, .inl (g.2.1 1, 11, .inl Lc)), (b12, .inl (g.2.1 1, 132, .inl La)), (b13, .inl (g.2.1 1, 132, .inl Lb)), (b17, .inl (g.2.1 3, 132, .inl Lo)), (b55, .inl (g.2.1 1, 49, .inl B')), (b56, .inl (g.2.1 1, 7, .inl BM')), (b57, .inl (g.2.1 1, 7, .inl TM'))]) := by
  refine MetV.of (own := RX12) rfl (by decide) (Nat.le_of_ble_eq_true rfl) ?_
  intro p e s m below meth c A ls args Q hQ X hr hin hW hl
  have hx := X.1
  have hb := X.2.1
  have hl : lv_has ls 6 [(0, .ref h0), (1, .int (nI v)), (2, .int (nI on)), (3, .int ab)] := hl
  refine lv_aload_n (pc := 0) hx hb dX12_layTree_0 rfl (lv_at hl 0 rfl) ?_
  refine r_get X hW 0 ciX12 56 rfl (by decide) m_1283 rfl rfl dX12_layTree_1 ?_
  refine lv_iload_n (pc := 4) hx hb dX12_layTree_4 rfl (lv_at hl 2 rfl) ?_
  refine lv_iconst (v := 0) (pc := 5) hx hb dX12_layTree_5 (by decide) ?_
  obtain ⟨f1, ef1⟩ : ∃ fz : Nat → Int32, upd BM0 (nI on).toNatClampNeg 0 = fz := ⟨_, rfl⟩
  refine r_iast (ws' := [(h0, .inr (12, [.int i0, .ref b1, .int i2, .int i3, .int i4, .int i5, .ref b6, .ref b7, .ref b8, .ref b9, .ref b10, .ref b11, .ref b12, .ref b13, .ref b14, .ref b15, .ref b16, .ref b17, .int i18, .int i19, .int i20, .ref b21, .ref b22, .ref b23, .ref b24, .ref b25, .ref b26, .int i27, .ref b28, .ref b29, .ref b30, .ref b31, .ref b32, .ref b33, .ref b34, .ref b35, .ref b36, .int i37, .int i38, .int i39, .int i40, .int i41, .int i42, .int i43, .int i44, .int i45, .ref b46, .ref b47, .ref b48, .ref b49, .ref b50, .ref b51, .ref b52, .ref b53, .ref b54, .ref b55, .ref b56, .ref b57, .ref b58, .ref b59, .ref b60, .ref b61, .ref b62, .ref b63])), (b6, .inl (g.2.1 1, 11, .inl P)), (b7, .inl (g.2.1 1, 11, .inl Lc)), (b12, .inl (g.2.1 1, 132, .inl La)), (b13, .inl (g.2.1 1, 132, .inl Lb)), (b17, .inl (g.2.1 3, 132, .inl Lo)), (b55, .inl (g.2.1 1, 49, .inl B0)), (b56, .inl (g.2.1 1, 7, .inl f1)), (b57, .inl (g.2.1 1, 7, .inl TM0))]) X hW 7 rfl (vp_in_nI (by omega) (by decide)) ef1 rfl dX12_layTree_6 (fun H locs hW => ?_)
  refine lv_aload_n (pc := 7) hx hb dX12_layTree_7 rfl (lv_at hl 0 rfl) ?_
  refine r_get X hW 0 ciX12 57 rfl (by decide) m_1284 rfl rfl dX12_layTree_8 ?_
  refine lv_iload_n (pc := 11) hx hb dX12_layTree_11 rfl (lv_at hl 2 rfl) ?_
  refine lv_iconst (v := 0) (pc := 12) hx hb dX12_layTree_12 (by decide) ?_
  obtain ⟨f2, ef2⟩ : ∃ fz : Nat → Int32, upd TM0 (nI on).toNatClampNeg 0 = fz := ⟨_, rfl⟩
  refine r_iast (ws' := [(h0, .inr (12, [.int i0, .ref b1, .int i2, .int i3, .int i4, .int i5, .ref b6, .ref b7, .ref b8, .ref b9, .ref b10, .ref b11, .ref b12, .ref b13, .ref b14, .ref b15, .ref b16, .ref b17, .int i18, .int i19, .int i20, .ref b21, .ref b22, .ref b23, .ref b24, .ref b25, .ref b26, .int i27, .ref b28, .ref b29, .ref b30, .ref b31, .ref b32, .ref b33, .ref b34, .ref b35, .ref b36, .int i37, .int i38, .int i39, .int i40, .int i41, .int i42, .int i43, .int i44, .int i45, .ref b46, .ref b47, .ref b48, .ref b49, .ref b50, .ref b51, .ref b52, .ref b53, .ref b54, .ref b55, .ref b56, .ref b57, .ref b58, .ref b59, .ref b60, .ref b61, .ref b62, .ref b63])), (b6, .inl (g.2.1 1, 11, .inl P)), (b7, .inl (g.2.1 1, 11, .inl Lc)), (b12, .inl (g.2.1 1, 132, .inl La)), (b13, .inl (g.2.1 1, 132, .inl Lb)), (b17, .inl (g.2.1 3, 132, .inl Lo)), (b55, .inl (g.2.1 1, 49, .inl B0)), (b56, .inl (g.2.1 1, 7, .inl f1)), (b57, .inl (g.2.1 1, 7, .inl f2))]) X hW 8 rfl (vp_in_nI (by omega) (by decide)) ef2 rfl dX12_layTree_13 (fun H locs hW => ?_)
  refine lv_iconst (v := 0) (pc := 14) hx hb dX12_layTree_14 (by decide) ?_
  refine lv_istore (lv' := [(4, .int 0), (0, .ref h0), (1, .int (nI v)), (2, .int (nI on)), (3, .int ab)]) (pc := 15) hx hb dX12_layTree_15 hl (by decide) rfl (fun ls hl => ?_)
  have hW : WD g A s _ _ [(h0, .inr (12, [.int i0, .ref b1, .int i2, .int i3, .int i4, .int i5, .ref b6, .ref b7, .ref b8, .ref b9, .ref b10, .ref b11, .ref b12, .ref b13, .ref b14, .ref b15, .ref b16, .ref b17, .int i18, .int i19, .int i20, .ref b21, .ref b22, .ref b23, .ref b24, .ref b25, .ref b26, .int i27, .ref b28, .ref b29, .ref b30, .ref b31, .ref b32, .ref b33, .ref b34, .ref b35, .ref b36, .int i37, .int i38, .int i39, .int i40, .int i41, .int i42, .int i43, .int i44, .int i45, .ref b46, .ref b47, .ref b48, .ref b49, .ref b50, .ref b51, .ref b52, .ref b53, .ref b54, .ref b55, .ref b56, .ref b57, .ref b58, .ref b59, .ref b60, .ref b61, .ref b62, .ref b63])), (b6, .inl (g.2.1 1, 11, .inl P)), (b7, .inl (g.2.1 1, 11, .inl Lc)), (b12, .inl (g.2.1 1, 132, .inl La)), (b13, .inl (g.2.1 1, 132, .inl Lb)), (b17, .inl (g.2.1 3, 132, .inl Lo)), (b55, .inl (g.2.1 1, 49, .inl B0)), (b56, .inl (g.2.1 1, 7, .inl f1)), (b57, .inl (g.2.1 1, 7, .inl f2))] := hW.pick [0, 1, 2, 3, 4, 5, 6, 7, 8] rfl rfl
  have hbm0 : bd7 f1 7 := by rw [← ef1]; exact bd7_upd (e := 0) hBM0 (by omega)
  have hc0 : f1 on = nI 0 := by rw [← ef1, nI_clamp (by omega)]; exact upd_eq
  have hf0 : ∀ y : Nat, ¬ Wr y → f1 y = BM0 y := fun y hy => by rw [← ef1, nI_clamp (by omega)]; exact upd_ne (fun q => hy (by rw [q]; exact hTP.2.1))
  have loop1 : ∀ (fu : Nat) (o : Nat) (cn : Nat) (B : Nat → Int32) (BM : Nat → Int32) (TM : Nat → Int32), (pp < fu + o) → (o ≤ pp) → (bd7 B 49) → (bd7 BM 7) → (BM on = nI cn) → (cn ≤ o ∧ (on < o → cn + 1 ≤ o)) → (∀ y : Nat, ¬ Wr y → BM y = BM0 y) → ∀ (H : Heap) (locs : List Loc) (ls : Array Slot), WD g A s H locs [(h0, .inr (12, [.int i0, .ref b1, .int i2, .int i3, .int i4, .int i5, .ref b6, .ref b7, .ref b8, .ref b9, .ref b10, .ref b11, .ref b12, .ref b13, .ref b14, .ref b15, .ref b16, .ref b17, .int i18, .int i19, .int i20, .ref b21, .ref b22, .ref b23, .ref b24, .ref b25, .ref b26, .int i27, .ref b28, .ref b29, .ref b30, .ref b31, .ref b32, .ref b33, .ref b34, .ref b35, .ref b36, .int i37, .int i38, .int i39, .int i40, .int i41, .int i42, .int i43, .int i44, .int i45, .ref b46, .ref b47, .ref b48, .ref b49, .ref b50, .ref b51, .ref b52, .ref b53, .ref b54, .ref b55, .ref b56, .ref b57, .ref b58, .ref b59, .ref b60, .ref b61, .ref b62, .ref b63])), (b6, .inl (g.2.1 1, 11, .inl P)), (b7, .inl (g.2.1 1, 11, .inl Lc)), (b12, .inl (g.2.1 1, 132, .inl La)), (b13, .inl (g.2.1 1, 132, .inl Lb)), (b17, .inl (g.2.1 3, 132, .inl Lo)), (b55, .inl (g.2.1 1, 49, .inl B)), (b56, .inl (g.2.1 1, 7, .inl BM)), (b57, .inl (g.2.1 1, 7, .inl TM))] → lv_has ls 6 [(0, .ref h0), (1, .int (nI v)), (2, .int (nI on)), (3, .int ab), (4, .int (nI o))] → W p l e (RM (dd + 1) 0 0) s m args below meth c H locs 0 0 Q (F0 m 17 ls []) := by
    intro fu
    induction fu with
    | zero =>
      intro o cn B BM TM hm ho hB hBM hc hcn hfr
      exact absurd hm (by omega)
    | succ fu ih1 =>
      intro o cn B BM TM hm ho hB hBM hc hcn hfr H locs ls hW hl
      refine lv_iload (pc := 17) hx hb dX12_layTree_17 (lv_at hl 4 rfl) ?_
      refine lv_aload_n (pc := 19) hx hb dX12_layTree_19 rfl (lv_at hl 0 rfl) ?_
      refine r_get X hW 0 ciX12 6 rfl (by decide) m_1237 rfl rfl dX12_layTree_20 ?_
      refine lv_iload_n (pc := 23) hx hb dX12_layTree_23 rfl (lv_at hl 1 rfl) ?_
      refine r_iald X hW 1 rfl (vp_in_nI (by omega) (by decide)) dX12_layTree_24 ?_
      refine lv_topi (fun uv3 euv3 => ?_)
      obtain rfl : uv3 = nI pp := euv3.trans (by rw [nI_clamp (by omega)]; exact hP)
      refine lv_icmp_ge (tgt := 166) (pc := 25) hx hb dX12_layTree_25 rfl (fun c4 => ?_) (fun c4 => ?_)
      · refine lv_iconst (v := 0) (pc := 166) hx hb dX12_layTree_166 (by decide) ?_
        refine lv_istore (lv' := [(4, .int 0), (0, .ref h0), (1, .int (nI v)), (2, .int (nI on)), (3, .int ab)]) (pc := 167) hx hb dX12_layTree_167 hl (by decide) rfl (fun ls hl => ?_)
        have hW : WD g A s _ _ [(h0, .inr (12, [.int i0, .ref b1, .int i2, .int i3, .int i4, .int i5, .ref b6, .ref b7, .ref b8, .ref b9, .ref b10, .ref b11, .ref b12, .ref b13, .ref b14, .ref b15, .ref b16, .ref b17, .int i18, .int i19, .int i20, .ref b21, .ref b22, .ref b23, .ref b24, .ref b25, .ref b26, .int i27, .ref b28, .ref b29, .ref b30, .ref b31, .ref b32, .ref b33, .ref b34, .ref b35, .ref b36, .int i37, .int i38, .int i39, .int i40, .int i41, .int i42, .int i43, .int i44, .int i45, .ref b46, .ref b47, .ref b48, .ref b49, .ref b50, .ref b51, .ref b52, .ref b53, .ref b54, .ref b55, .ref b56, .ref b57, .ref b58, .ref b59, .ref b60, .ref b61, .ref b62, .ref b63])), (b6, .inl (g.2.1 1, 11, .inl P)), (b7, .inl (g.2.1 1, 11, .inl Lc)), (b12, .inl (g.2.1 1, 132, .inl La)), (b13, .inl (g.2.1 1, 132, .inl Lb)), (b17, .inl (g.2.1 3, 132, .inl Lo)), (b55, .inl (g.2.1 1, 49, .inl B)), (b56, .inl (g.2.1 1, 7, .inl BM)), (b57, .inl (g.2.1 1, 7, .inl TM))] := hW.pick [0, 1, 2, 3, 4, 5, 6, 7, 8] rfl rfl
        obtain ⟨cx, hcx, ecx⟩ := hBM on (by omega)
        have hcn6 : cn ≤ 6 := by have h9 := (nI_eq (a := cn) (b := cx) (by omega) (by omega)).mp (hc.symm.trans ecx); omega
        have loop3 : ∀ (fx : Nat) (k : Nat) (T3 : Nat → Int32), (cn < fx + k) → (k ≤ cn) → ∀ (H : Heap) (locs : List Loc) (ls : Array Slot), WD g A s H locs [(h0, .inr (12, [.int i0, .ref b1, .int i2, .int i3, .int i4, .int i5, .ref b6, .ref b7, .ref b8, .ref b9, .ref b10, .ref b11, .ref b12, .ref b13, .ref b14, .ref b15, .ref b16, .ref b17, .int i18, .int i19, .int i20, .ref b21, .ref b22, .ref b23, .ref b24, .ref b25, .ref b26, .int i27, .ref b28, .ref b29, .ref b30, .ref b31, .ref b32, .ref b33, .ref b34, .ref b35, .ref b36, .int i37, .int i38, .int i39, .int i40, .int i41, .int i42, .int i43, .int i44, .int i45, .ref b46, .ref b47, .ref b48, .ref b49, .ref b50, .ref b51, .ref b52, .ref b53, .ref b54, .ref b55, .ref b56, .ref b57, .ref b58, .ref b59, .ref b60, .ref b61, .ref b62, .ref b63])), (b6, .inl (g.2.1 1, 11, .inl P)), (b7, .inl (g.2.1 1, 11, .inl Lc)), (b12, .inl (g.2.1 1, 132, .inl La)), (b13, .inl (g.2.1 1, 132, .inl Lb)), (b17, .inl (g.2.1 3, 132, .inl Lo)), (b55, .inl (g.2.1 1, 49, .inl B)), (b56, .inl (g.2.1 1, 7, .inl BM)), (b57, .inl (g.2.1 1, 7, .inl T3))] → lv_has ls 6 [(0, .ref h0), (1, .int (nI v)), (2, .int (nI on)), (3, .int ab), (4, .int (nI k))] → W p l e (RM (dd + 1) 0 0) s m args below meth c H locs 0 0 Q (F0 m 169 ls []) := by
          intro fx
          induction fx with
          | zero =>
            intro k T3 hm3 hk
            exact absurd hm3 (by omega)
          | succ fx ih3 =>
            intro k T3 hm3 hk H locs ls hW hl
            refine lv_iload (pc := 169) hx hb dX12_layTree_169 (lv_at hl 4 rfl) ?_
            refine lv_aload_n (pc := 171) hx hb dX12_layTree_171 rfl (lv_at hl 0 rfl) ?_
            refine r_get X hW 0 ciX12 56 rfl (by decide) m_1283 rfl rfl dX12_layTree_172 ?_
            refine lv_iload_n (pc := 175) hx hb dX12_layTree_175 rfl (lv_at hl 2 rfl) ?_
            refine r_iald X hW 7 rfl (vp_in_nI (by omega) (by decide)) dX12_layTree_176 ?_
            refine lv_topi (fun uv5 euv5 => ?_)
            obtain rfl : uv5 = nI cn := euv5.trans (by rw [nI_clamp (by omega)]; exact hc)
            refine lv_icmp_ge (tgt := 223) (pc := 177) hx hb dX12_layTree_177 rfl (fun c6 => ?_) (fun c6 => ?_)
            · exact e_v X hQ hr hW (u := [(h0, .inr (12, [.int i0, .ref b1, .int i2, .int i3, .int i4, .int i5, .ref b6, .ref b7, .ref b8, .ref b9, .ref b10, .ref b11, .ref b12, .ref b13, .ref b14, .ref b15, .ref b16, .ref b17, .int i18, .int i19, .int i20, .ref b21, .ref b22, .ref b23, .ref b24, .ref b25, .ref b26, .int i27, .ref b28, .ref b29, .ref b30, .ref b31, .ref b32, .ref b33, .ref b34, .ref b35, .ref b36, .int i37, .int i38, .int i39, .int i40, .int i41, .int i42, .int i43, .int i44, .int i45, .ref b46, .ref b47, .ref b48, .ref b49, .ref b50, .ref b51, .ref b52, .ref b53, .ref b54, .ref b55, .ref b56, .ref b57, .ref b58, .ref b59, .ref b60, .ref b61, .ref b62, .ref b63])), (b6, .inl (g.2.1 1, 11, .inl P)), (b7, .inl (g.2.1 1, 11, .inl Lc)), (b12, .inl (g.2.1 1, 132, .inl La)), (b13, .inl (g.2.1 1, 132, .inl Lb)), (b17, .inl (g.2.1 3, 132, .inl Lo)), (b55, .inl (g.2.1 1, 49, .inl B)), (b56, .inl (g.2.1 1, 7, .inl BM)), (b57, .inl (g.2.1 1, 7, .inl T3))]) [0, 1, 2, 3, 4, 5, 6, 7, 8] rfl rfl (⟨_, _, _, hB, hBM, hfr, rfl⟩) ⟨Nat.le_of_ble_eq_true rfl, Nat.le_of_ble_eq_true rfl⟩ dX12_layTree_223
            · have hkl : k < cn := ge_f (by omega) (by omega) c6
              obtain ⟨e1, he1, eB1⟩ := hB (7 * on + k) (by omega)
              refine lv_aload_n (pc := 180) hx hb dX12_layTree_180 rfl (lv_at hl 0 rfl) ?_
              refine r_get X hW 0 ciX12 57 rfl (by decide) m_1284 rfl rfl dX12_layTree_181 ?_
              refine lv_iload_n (pc := 184) hx hb dX12_layTree_184 rfl (lv_at hl 2 rfl) ?_
              refine lv_aload_n (pc := 185) hx hb dX12_layTree_185 rfl (lv_at hl 0 rfl) ?_
              refine r_get X hW 0 ciX12 57 rfl (by decide) m_1284 rfl rfl dX12_layTree_186 ?_
              refine lv_iload_n (pc := 189) hx hb dX12_layTree_189 rfl (lv_at hl 2 rfl) ?_
              refine r_iald X hW 8 rfl (vp_in_nI (by omega) (by decide)) dX12_layTree_190 ?_
              refine lv_topi (fun uv7 euv7 => ?_)
              refine lv_iload (pc := 191) hx hb dX12_layTree_191 (lv_at hl 4 rfl) ?_
              refine lv_iconst (v := 1) (pc := 193) hx hb dX12_layTree_193 (by decide) ?_
              refine lv_iadd (pc := 194) hx hb dX12_layTree_194 ?_
              refine lv_topi (fun uv8 euv8 => ?_)
              obtain rfl : uv8 = nI (k + 1) := euv8.trans (nI_1 _)
              refine lv_aload_n (pc := 195) hx hb dX12_layTree_195 rfl (lv_at hl 0 rfl) ?_
              refine r_get X hW 0 ciX12 57 rfl (by decide) m_1284 rfl rfl dX12_layTree_196 ?_
              refine lv_aload_n (pc := 199) hx hb dX12_layTree_199 rfl (lv_at hl 0 rfl) ?_
              refine r_get X hW 0 ciX12 55 rfl (by decide) m_1282 rfl rfl dX12_layTree_200 ?_
              refine lv_bipush (v := 7) (pc := 203) hx hb dX12_layTree_203 (by decide) ?_
              refine lv_iload_n (pc := 205) hx hb dX12_layTree_205 rfl (lv_at hl 2 rfl) ?_
              refine lv_imul (pc := 206) hx hb dX12_layTree_206 ?_
              refine lv_topi (fun uv9 euv9 => ?_)
              obtain rfl : uv9 = nI (7 * on) := euv9.trans (pk_mul _ _)
              refine lv_iload (pc := 207) hx hb dX12_layTree_207 (lv_at hl 4 rfl) ?_
              refine lv_iadd (pc := 209) hx hb dX12_layTree_209 ?_
              refine lv_topi (fun uv10 euv10 => ?_)
              obtain rfl : uv10 = nI (7 * on + k) := euv10.trans (nI_add _ _)
              refine r_iald X hW 6 rfl (vp_in_nI (by omega) (by decide)) dX12_layTree_210 ?_
              refine lv_topi (fun uv11 euv11 => ?_)
              obtain rfl : uv11 = nI e1 := euv11.trans (by rw [nI_clamp (by omega)]; exact eB1)
              refine r_iald X hW 8 rfl (vp_in_nI (by omega) (by decide)) dX12_layTree_211 ?_
              refine lv_topi (fun uv12 euv12 => ?_)
              refine lv_iadd (pc := 212) hx hb dX12_layTree_212 ?_
              refine va_mmax (pc := 213) hx hb (X.2.2.1.trans hl.1.symm) X.2.2.2.1 (X.2.2.2.2.1 _ mm_X12_213) (X.2.2.2.2.1 _ mms_max) (X.2.2.2.2.1 _ m_19) (X.2.2.2.2.1 _ mmc_max) (by show _ ≤ dd + 1; omega) (Nat.le_trans (m := 280) (Nat.le_of_ble_eq_true rfl) (by show 280 ≤ 40 * (dd + 1); omega)) (Nat.le_of_ble_eq_true rfl) (Nat.le_of_ble_eq_true rfl) dX12_layTree_213 ?_
              refine lv_topi (fun uv13 euv13 => ?_)
              obtain ⟨f14, ef14⟩ : ∃ fz : Nat → Int32, upd T3 (nI on).toNatClampNeg uv13 = fz := ⟨_, rfl⟩
              refine r_iast (ws' := [(h0, .inr (12, [.int i0, .ref b1, .int i2, .int i3, .int i4, .int i5, .ref b6, .ref b7, .ref b8, .ref b9, .ref b10, .ref b11, .ref b12, .ref b13, .ref b14, .ref b15, .ref b16, .ref b17, .int i18, .int i19, .int i20, .ref b21, .ref b22, .ref b23, .ref b24, .ref b25, .ref b26, .int i27, .ref b28, .ref b29, .ref b30, .ref b31, .ref b32, .ref b33, .ref b34, .ref b35, .ref b36, .int i37, .int i38, .int i39, .int i40, .int i41, .int i42, .int i43, .int i44, .int i45, .ref b46, .ref b47, .ref b48, .ref b49, .ref b50, .ref b51, .ref b52, .ref b53, .ref b54, .ref b55, .ref b56, .ref b57, .ref b58, .ref b59, .ref b60, .ref b61, .ref b62, .ref b63])), (b6, .inl (g.2.1 1, 11, .inl P)), (b7, .inl (g.2.1 1, 11, .inl Lc)), (b12, .inl (g.2.1 1, 132, .inl La)), (b13, .inl (g.2.1 1, 132, .inl Lb)), (b17, .inl (g.2.1 3, 132, .inl Lo)), (b55, .inl (g.2.1 1, 49, .inl B)), (b56, .inl (g.2.1 1, 7, .inl BM)), (b57, .inl (g.2.1 1, 7, .inl f14))]) X hW 8 rfl (vp_in_nI (by omega) (by decide)) ef14 rfl dX12_layTree_216 (fun H locs hW => ?_)
              refine lv_iinc (v := nI (k + 1)) (lv' := [(4, .int (nI (k + 1))), (0, .ref h0), (1, .int (nI v)), (2, .int (nI on)), (3, .int ab)]) (pc := 217) hx hb dX12_layTree_217 hl (k := 4) rfl ((nI_succ k).symm) (by decide) rfl (fun ls hl => ?_)
              refine lv_goto (tgt := 169) (pc := 220) hx hb dX12_layTree_220 rfl ?_
              have hW : WD g A s _ _ [(h0, .inr (12, [.int i0, .ref b1, .int i2, .int i3, .int i4, .int i5, .ref b6, .ref b7, .ref b8, .ref b9, .ref b10, .ref b11, .ref b12, .ref b13, .ref b14, .ref b15, .ref b16, .ref b17, .int i18, .int i19, .int i20, .ref b21, .ref b22, .ref b23, .ref b24, .ref b25, .ref b26, .int i27, .ref b28, .ref b29, .ref b30, .ref b31, .ref b32, .ref b33, .ref b34, .ref b35, .ref b36, .int i37, .int i38, .int i39, .int i40, .int i41, .int i42, .int i43, .int i44, .int i45, .ref b46, .ref b47, .ref b48, .ref b49, .ref b50, .ref b51, .ref b52, .ref b53, .ref b54, .ref b55, .ref b56, .ref b57, .ref b58, .ref b59, .ref b60, .ref b61, .ref b62, .ref b63])), (b6, .inl (g.2.1 1, 11, .inl P)), (b7, .inl (g.2.1 1, 11, .inl Lc)), (b12, .inl (g.2.1 1, 132, .inl La)), (b13, .inl (g.2.1 1, 132, .inl Lb)), (b17, .inl (g.2.1 3, 132, .inl Lo)), (b55, .inl (g.2.1 1, 49, .inl B)), (b56, .inl (g.2.1 1, 7, .inl BM)), (b57, .inl (g.2.1 1, 7, .inl f14))] := hW.pick [0, 1, 2, 3, 4, 5, 6, 7, 8] rfl rfl
              exact ih3 (k + 1) f14 (by omega) (by omega) _ _ _ hW (lv_sub hl [1, 2, 3, 4, 0] rfl)
        exact loop3 (cn + 1) 0 TM (by omega) (Nat.zero_le _) _ _ _ hW (lv_sub hl [1, 2, 3, 4, 0] rfl)
      · have hol : o < pp := ge_f (by omega) (by omega) c4
        refine lv_iload (pc := 28) hx hb dX12_layTree_28 (lv_at hl 4 rfl) ?_
        refine lv_iload_n (pc := 30) hx hb dX12_layTree_30 rfl (lv_at hl 3 rfl) ?_
        refine lv_icmp_eq (tgt := 160) (pc := 31) hx hb dX12_layTree_31 rfl (fun c15 => ?_) (fun c15 => ?_)
        · refine lv_iinc (v := nI (o + 1)) (lv' := [(4, .int (nI (o + 1))), (0, .ref h0), (1, .int (nI v)), (2, .int (nI on)), (3, .int ab)]) (pc := 160) hx hb dX12_layTree_160 hl (k := 4) rfl ((nI_succ o).symm) (by decide) rfl (fun ls hl => ?_)
          refine lv_goto (tgt := 17) (pc := 163) hx hb dX12_layTree_163 rfl ?_
          have hW : WD g A s _ _ [(h0, .inr (12, [.int i0, .ref b1, .int i2, .int i3, .int i4, .int i5, .ref b6, .ref b7, .ref b8, .ref b9, .ref b10, .ref b11, .ref b12, .ref b13, .ref b14, .ref b15, .ref b16, .ref b17, .int i18, .int i19, .int i20, .ref b21, .ref b22, .ref b23, .ref b24, .ref b25, .ref b26, .int i27, .ref b28, .ref b29, .ref b30, .ref b31, .ref b32, .ref b33, .ref b34, .ref b35, .ref b36, .int i37, .int i38, .int i39, .int i40, .int i41, .int i42, .int i43, .int i44, .int i45, .ref b46, .ref b47, .ref b48, .ref b49, .ref b50, .ref b51, .ref b52, .ref b53, .ref b54, .ref b55, .ref b56, .ref b57, .ref b58, .ref b59, .ref b60, .ref b61, .ref b62, .ref b63])), (b6, .inl (g.2.1 1, 11, .inl P)), (b7, .inl (g.2.1 1, 11, .inl Lc)), (b12, .inl (g.2.1 1, 132, .inl La)), (b13, .inl (g.2.1 1, 132, .inl Lb)), (b17, .inl (g.2.1 3, 132, .inl Lo)), (b55, .inl (g.2.1 1, 49, .inl B)), (b56, .inl (g.2.1 1, 7, .inl BM)), (b57, .inl (g.2.1 1, 7, .inl TM))] := hW.pick [0, 1, 2, 3, 4, 5, 6, 7, 8] rfl rfl
          exact ih1 (o + 1) cn B BM TM (by omega) (by omega) hB hBM hc ⟨by omega, fun q => by omega⟩ hfr _ _ _ hW (lv_sub hl [1, 2, 3, 4, 0] rfl)
        · have h_ab := c15
          refine lv_iload (pc := 34) hx hb dX12_layTree_34 (lv_at hl 4 rfl) ?_
          refine lv_iload_n (pc := 36) hx hb dX12_layTree_36 rfl (lv_at hl 2 rfl) ?_
          refine lv_icmp_eq (tgt := 160) (pc := 37) hx hb dX12_layTree_37 rfl (fun c16 => ?_) (fun c16 => ?_)
          · refine lv_iinc (v := nI (o + 1)) (lv' := [(4, .int (nI (o + 1))), (0, .ref h0), (1, .int (nI v)), (2, .int (nI on)), (3, .int ab)]) (pc := 160) hx hb dX12_layTree_160 hl (k := 4) rfl ((nI_succ o).symm) (by decide) rfl (fun ls hl => ?_)
            refine lv_goto (tgt := 17) (pc := 163) hx hb dX12_layTree_163 rfl ?_
            have hW : WD g A s _ _ [(h0, .inr (12, [.int i0, .ref b1, .int i2, .int i3, .int i4, .int i5, .ref b6, .ref b7, .ref b8, .ref b9, .ref b10, .ref b11, .ref b12, .ref b13, .ref b14, .ref b15, .ref b16, .ref b17, .int i18, .int i19, .int i20, .ref b21, .ref b22, .ref b23, .ref b24, .ref b25, .ref b26, .int i27, .ref b28, .ref b29, .ref b30, .ref b31, .ref b32, .ref b33, .ref b34, .ref b35, .ref b36, .int i37, .int i38, .int i39, .int i40, .int i41, .int i42, .int i43, .int i44, .int i45, .ref b46, .ref b47, .ref b48, .ref b49, .ref b50, .ref b51, .ref b52, .ref b53, .ref b54, .ref b55, .ref b56, .ref b57, .ref b58, .ref b59, .ref b60, .ref b61, .ref b62, .ref b63])), (b6, .inl (g.2.1 1, 11, .inl P)), (b7, .inl (g.2.1 1, 11, .inl Lc)), (b12, .inl (g.2.1 1, 132, .inl La)), (b13, .inl (g.2.1 1, 132, .inl Lb)), (b17, .inl (g.2.1 3, 132, .inl Lo)), (b55, .inl (g.2.1 1, 49, .inl B)), (b56, .inl (g.2.1 1, 7, .inl BM)), (b57, .inl (g.2.1 1, 7, .inl TM))] := hW.pick [0, 1, 2, 3, 4, 5, 6, 7, 8] rfl rfl
            exact ih1 (o + 1) cn B BM TM (by omega) (by omega) hB hBM hc ⟨by omega, fun q => by omega⟩ hfr _ _ _ hW (lv_sub hl [1, 2, 3, 4, 0] rfl)
          · have h_on : ¬ o = on := fun q => c16 (congrArg nI q)
            refine lv_aload_n (pc := 40) hx hb dX12_layTree_40 rfl (lv_at hl 0 rfl) ?_
            refine lv_iload_n (pc := 41) hx hb dX12_layTree_41 rfl (lv_at hl 1 rfl) ?_
            refine lv_iload_n (pc := 42) hx hb dX12_layTree_42 rfl (lv_at hl 2 rfl) ?_
            refine lv_iload (pc := 43) hx hb dX12_layTree_43 (lv_at hl 4 rfl) ?_
            refine c_Vi (pc := 45) (As := [.int (nI v), .int (nI on), .int (nI o)]) (rest := []) (wr := [(b6, .inl (g.2.1 1, 11, .inl P)), (b55, .inl (g.2.1 1, 49, .inl B)), (b56, .inl (g.2.1 1, 7, .inl BM)), (b57, .inl (g.2.1 1, 7, .inl TM))]) X hW 0 ciX12 rfl (C_X12_isBesideG l g h0 b1 b6 b7 b8 b9 b10 b11 b12 b13 b14 b15 b16 b17 b21 b22 b23 b24 b25 b26 b28 b29 b30 b31 b32 b33 b34 b35 b36 b46 b47 b48 b49 b50 b51 b52 b53 b54 b55 b56 b57 b58 b59 b60 b61 b62 b63 i0 i2 i3 i4 i5 i18 i19 i20 i27 i37 i38 i39 i40 i41 i42 i43 i44 i45 Lc La Lb Lo v lc hv hlc hLc on o) vX12_367 [0, 2, 3, 4, 5] [1, 6, 7, 8] rfl rfl rfl rfl rfl rfl hl.1 rfl (Nat.le_of_ble_eq_true rfl) ⟨by show _ ≤ dd + 1; omega, by show _ ≤ 40 * (dd + 1); omega⟩ ⟨Nat.le_of_ble_eq_true rfl, Nat.le_of_ble_eq_true rfl⟩ dX12_layTree_45 (fun r17 u9 H locs hq hW => ?_)
            obtain ⟨hnb9, rfl⟩ := hq
            have hW : WD g A s _ _ [(b6, .inl (g.2.1 1, 11, .inl P)), (b55, .inl (g.2.1 1, 49, .inl B)), (b56, .inl (g.2.1 1, 7, .inl BM)), (b57, .inl (g.2.1 1, 7, .inl TM)), (h0, .inr (12, [.int i0, .ref b1, .int i2, .int i3, .int i4, .int i5, .ref b6, .ref b7, .ref b8, .ref b9, .ref b10, .ref b11, .ref b12, .ref b13, .ref b14, .ref b15, .ref b16, .ref b17, .int i18, .int i19, .int i20, .ref b21, .ref b22, .ref b23, .ref b24, .ref b25, .ref b26, .int i27, .ref b28, .ref b29, .ref b30, .ref b31, .ref b32, .ref b33, .ref b34, .ref b35, .ref b36, .int i37, .int i38, .int i39, .int i40, .int i41, .int i42, .int i43, .int i44, .int i45, .ref b46, .ref b47, .ref b48, .ref b49, .ref b50, .ref b51, .ref b52, .ref b53, .ref b54, .ref b55, .ref b56, .ref b57, .ref b58, .ref b59, .ref b60, .ref b61, .ref b62, .ref b63])), (b7, .inl (g.2.1 1, 11, .inl Lc)), (b12, .inl (g.2.1 1, 132, .inl La)), (b13, .inl (g.2.1 1, 132, .inl Lb)), (b17, .inl (g.2.1 3, 132, .inl Lo))] := hW
            refine lv_if_ne (tgt := 54) (pc := 48) hx hb dX12_layTree_48 rfl (fun c18 => ?_) (fun c18 => ?_)
            · obtain ⟨W9, hT9, hn9, hs9⟩ := hTP.2.2 o hol h_ab h_on (hnb9 c18)
              refine lv_aload_n (pc := 54) hx hb dX12_layTree_54 rfl (lv_at hl 0 rfl) ?_
              refine lv_iload_n (pc := 55) hx hb dX12_layTree_55 rfl (lv_at hl 1 rfl) ?_
              refine lv_iload (pc := 56) hx hb dX12_layTree_56 (lv_at hl 4 rfl) ?_
              refine lv_iload_n (pc := 58) hx hb dX12_layTree_58 rfl (lv_at hl 2 rfl) ?_
              refine c_Vv (pc := 59) (As := [.int (nI v), .int (nI o), .int (nI on)]) (rest := []) (wr := []) X hW 4 ciX12 rfl (ih B BM TM o (nI on) W9 hT9 hB hBM) vX12_370 [4, 0, 5, 6, 7, 8, 1, 2, 3] [] rfl rfl rfl rfl rfl rfl hl.1 rfl (Nat.le_of_ble_eq_true rfl) ⟨by show _ ≤ dd + 1; omega, by show _ ≤ 40 * (dd + 1); omega⟩ ⟨Nat.le_of_ble_eq_true rfl, Nat.le_of_ble_eq_true rfl⟩ dX12_layTree_59 (fun u9 H locs hq hW => ?_)
              obtain ⟨Bq, BMq, TMq, hBq, hBMq, hfq, rfl⟩ := hq
              have hc : BMq on = nI cn := (hfq on hn9).trans hc
              have hW : WD g A s _ _ [(h0, .inr (12, [.int i0, .ref b1, .int i2, .int i3, .int i4, .int i5, .ref b6, .ref b7, .ref b8, .ref b9, .ref b10, .ref b11, .ref b12, .ref b13, .ref b14, .ref b15, .ref b16, .ref b17, .int i18, .int i19, .int i20, .ref b21, .ref b22, .ref b23, .ref b24, .ref b25, .ref b26, .int i27, .ref b28, .ref b29, .ref b30, .ref b31, .ref b32, .ref b33, .ref b34, .ref b35, .ref b36, .int i37, .int i38, .int i39, .int i40, .int i41, .int i42, .int i43, .int i44, .int i45, .ref b46, .ref b47, .ref b48, .ref b49, .ref b50, .ref b51, .ref b52, .ref b53, .ref b54, .ref b55, .ref b56, .ref b57, .ref b58, .ref b59, .ref b60, .ref b61, .ref b62, .ref b63])), (b6, .inl (g.2.1 1, 11, .inl P)), (b7, .inl (g.2.1 1, 11, .inl Lc)), (b12, .inl (g.2.1 1, 132, .inl La)), (b13, .inl (g.2.1 1, 132, .inl Lb)), (b17, .inl (g.2.1 3, 132, .inl Lo)), (b55, .inl (g.2.1 1, 49, .inl Bq)), (b56, .inl (g.2.1 1, 7, .inl BMq)), (b57, .inl (g.2.1 1, 7, .inl TMq))] := hW
              refine lv_aload_n (pc := 62) hx hb dX12_layTree_62 rfl (lv_at hl 0 rfl) ?_
              refine r_get X hW 0 ciX12 56 rfl (by decide) m_1283 rfl rfl dX12_layTree_63 ?_
              refine lv_iload_n (pc := 66) hx hb dX12_layTree_66 rfl (lv_at hl 2 rfl) ?_
              refine r_iald X hW 7 rfl (vp_in_nI (by omega) (by decide)) dX12_layTree_67 ?_
              refine lv_topi (fun uv19 euv19 => ?_)
              obtain rfl : uv19 = nI cn := euv19.trans (by rw [nI_clamp (by omega)]; exact hc)
              refine lv_istore (lv' := [(5, .int (nI cn)), (0, .ref h0), (1, .int (nI v)), (2, .int (nI on)), (3, .int ab), (4, .int (nI o))]) (pc := 68) hx hb dX12_layTree_68 hl (by decide) rfl (fun ls hl => ?_)
              have hW : WD g A s _ _ [(h0, .inr (12, [.int i0, .ref b1, .int i2, .int i3, .int i4, .int i5, .ref b6, .ref b7, .ref b8, .ref b9, .ref b10, .ref b11, .ref b12, .ref b13, .ref b14, .ref b15, .ref b16, .ref b17, .int i18, .int i19, .int i20, .ref b21, .ref b22, .ref b23, .ref b24, .ref b25, .ref b26, .int i27, .ref b28, .ref b29, .ref b30, .ref b31, .ref b32, .ref b33, .ref b34, .ref b35, .ref b36, .int i37, .int i38, .int i39, .int i40, .int i41, .int i42, .int i43, .int i44, .int i45, .ref b46, .ref b47, .ref b48, .ref b49, .ref b50, .ref b51, .ref b52, .ref b53, .ref b54, .ref b55, .ref b56, .ref b57, .ref b58, .ref b59, .ref b60, .ref b61, .ref b62, .ref b63])), (b6, .inl (g.2.1 1, 11, .inl P)), (b7, .inl (g.2.1 1, 11, .inl Lc)), (b12, .inl (g.2.1 1, 132, .inl La)), (b13, .inl (g.2.1 1, 132, .inl Lb)), (b17, .inl (g.2.1 3, 132, .inl Lo)), (b55, .inl (g.2.1 1, 49, .inl Bq)), (b56, .inl (g.2.1 1, 7, .inl BMq)), (b57, .inl (g.2.1 1, 7, .inl TMq))] := hW.pick [0, 1, 2, 3, 4, 5, 6, 7, 8] rfl rfl
              have loop2 : ∀ (fv : Nat) (kk : Nat) (B3 : Nat → Int32), (kk < fv) → (kk ≤ cn) → (bd7 B3 49) → ∀ (H : Heap) (locs : List Loc) (ls : Array Slot), WD g A s H locs [(h0, .inr (12, [.int i0, .ref b1, .int i2, .int i3, .int i4, .int i5, .ref b6, .ref b7, .ref b8, .ref b9, .ref b10, .ref b11, .ref b12, .ref b13, .ref b14, .ref b15, .ref b16, .ref b17, .int i18, .int i19, .int i20, .ref b21, .ref b22, .ref b23, .ref b24, .ref b25, .ref b26, .int i27, .ref b28, .ref b29, .ref b30, .ref b31, .ref b32, .ref b33, .ref b34, .ref b35, .ref b36, .int i37, .int i38, .int i39, .int i40, .int i41, .int i42, .int i43, .int i44, .int i45, .ref b46, .ref b47, .ref b48, .ref b49, .ref b50, .ref b51, .ref b52, .ref b53, .ref b54, .ref b55, .ref b56, .ref b57, .ref b58, .ref b59, .ref b60, .ref b61, .ref b62, .ref b63])), (b6, .inl (g.2.1 1, 11, .inl P)), (b7, .inl (g.2.1 1, 11, .inl Lc)), (b12, .inl (g.2.1 1, 132, .inl La)), (b13, .inl (g.2.1 1, 132, .inl Lb)), (b17, .inl (g.2.1 3, 132, .inl Lo)), (b55, .inl (g.2.1 1, 49, .inl B3)), (b56, .inl (g.2.1 1, 7, .inl BMq)), (b57, .inl (g.2.1 1, 7, .inl TMq))] → lv_has ls 6 [(0, .ref h0), (1, .int (nI v)), (2, .int (nI on)), (3, .int ab), (4, .int (nI o)), (5, .int (nI kk))] → W p l e (RM (dd + 1) 0 0) s m args below meth c H locs 0 0 Q (F0 m 70 ls []) := by
                intro fv
                induction fv with
                | zero =>
                  intro kk B3 hm2 hkk hB3
                  exact absurd hm2 (by omega)
                | succ fv ih2 =>
                  intro kk B3 hm2 hkk hB3 H locs ls hW hl
                  refine lv_iload (pc := 70) hx hb dX12_layTree_70 (lv_at hl 5 rfl) ?_
                  refine lv_if_le (tgt := 136) (pc := 72) hx hb dX12_layTree_72 rfl (fun c20 => ?_) (fun c20 => ?_)
                  · refine lv_aload_n (pc := 136) hx hb dX12_layTree_136 rfl (lv_at hl 0 rfl) ?_
                    refine r_get X hW 0 ciX12 55 rfl (by decide) m_1282 rfl rfl dX12_layTree_137 ?_
                    refine lv_bipush (v := 7) (pc := 140) hx hb dX12_layTree_140 (by decide) ?_
                    refine lv_iload_n (pc := 142) hx hb dX12_layTree_142 rfl (lv_at hl 2 rfl) ?_
                    refine lv_imul (pc := 143) hx hb dX12_layTree_143 ?_
                    refine lv_topi (fun uv21 euv21 => ?_)
                    obtain rfl : uv21 = nI (7 * on) := euv21.trans (pk_mul _ _)
                    refine lv_iload (pc := 144) hx hb dX12_layTree_144 (lv_at hl 5 rfl) ?_
                    refine lv_iadd (pc := 146) hx hb dX12_layTree_146 ?_
                    refine lv_topi (fun uv22 euv22 => ?_)
                    obtain rfl : uv22 = nI (7 * on + kk) := euv22.trans (nI_add _ _)
                    refine lv_iload (pc := 147) hx hb dX12_layTree_147 (lv_at hl 4 rfl) ?_
                    obtain ⟨f23, ef23⟩ : ∃ fz : Nat → Int32, upd B3 (nI (7 * on + kk)).toNatClampNeg (nI o) = fz := ⟨_, rfl⟩
                    refine r_iast (ws' := [(h0, .inr (12, [.int i0, .ref b1, .int i2, .int i3, .int i4, .int i5, .ref b6, .ref b7, .ref b8, .ref b9, .ref b10, .ref b11, .ref b12, .ref b13, .ref b14, .ref b15, .ref b16, .ref b17, .int i18, .int i19, .int i20, .ref b21, .ref b22, .ref b23, .ref b24, .ref b25, .ref b26, .int i27, .ref b28, .ref b29, .ref b30, .ref b31, .ref b32, .ref b33, .ref b34, .ref b35, .ref b36, .int i37, .int i38, .int i39, .int i40, .int i41, .int i42, .int i43, .int i44, .int i45, .ref b46, .ref b47, .ref b48, .ref b49, .ref b50, .ref b51, .ref b52, .ref b53, .ref b54, .ref b55, .ref b56, .ref b57, .ref b58, .ref b59, .ref b60, .ref b61, .ref b62, .ref b63])), (b6, .inl (g.2.1 1, 11, .inl P)), (b7, .inl (g.2.1 1, 11, .inl Lc)), (b12, .inl (g.2.1 1, 132, .inl La)), (b13, .inl (g.2.1 1, 132, .inl Lb)), (b17, .inl (g.2.1 3, 132, .inl Lo)), (b55, .inl (g.2.1 1, 49, .inl f23)), (b56, .inl (g.2.1 1, 7, .inl BMq)), (b57, .inl (g.2.1 1, 7, .inl TMq))]) X hW 6 rfl (vp_in_nI (by omega) (by decide)) ef23 rfl dX12_layTree_149 (fun H locs hW => ?_)
                    refine lv_aload_n (pc := 150) hx hb dX12_layTree_150 rfl (lv_at hl 0 rfl) ?_
                    refine r_get X hW 0 ciX12 56 rfl (by decide) m_1283 rfl rfl dX12_layTree_151 ?_
                    refine lv_iload_n (pc := 154) hx hb dX12_layTree_154 rfl (lv_at hl 2 rfl) ?_
                    refine lv_dup2_11 (pc := 155) hx hb dX12_layTree_155 rfl rfl ?_
                    refine r_iald X hW 7 rfl (vp_in_nI (by omega) (by decide)) dX12_layTree_156 ?_
                    refine lv_topi (fun uv24 euv24 => ?_)
                    obtain rfl : uv24 = nI cn := euv24.trans (by rw [nI_clamp (by omega)]; exact hc)
                    refine lv_iconst (v := 1) (pc := 157) hx hb dX12_layTree_157 (by decide) ?_
                    refine lv_iadd (pc := 158) hx hb dX12_layTree_158 ?_
                    refine lv_topi (fun uv25 euv25 => ?_)
                    obtain rfl : uv25 = nI (cn + 1) := euv25.trans (nI_1 _)
                    obtain ⟨f26, ef26⟩ : ∃ fz : Nat → Int32, upd BMq (nI on).toNatClampNeg (nI (cn + 1)) = fz := ⟨_, rfl⟩
                    refine r_iast (ws' := [(h0, .inr (12, [.int i0, .ref b1, .int i2, .int i3, .int i4, .int i5, .ref b6, .ref b7, .ref b8, .ref b9, .ref b10, .ref b11, .ref b12, .ref b13, .ref b14, .ref b15, .ref b16, .ref b17, .int i18, .int i19, .int i20, .ref b21, .ref b22, .ref b23, .ref b24, .ref b25, .ref b26, .int i27, .ref b28, .ref b29, .ref b30, .ref b31, .ref b32, .ref b33, .ref b34, .ref b35, .ref b36, .int i37, .int i38, .int i39, .int i40, .int i41, .int i42, .int i43, .int i44, .int i45, .ref b46, .ref b47, .ref b48, .ref b49, .ref b50, .ref b51, .ref b52, .ref b53, .ref b54, .ref b55, .ref b56, .ref b57, .ref b58, .ref b59, .ref b60, .ref b61, .ref b62, .ref b63])), (b6, .inl (g.2.1 1, 11, .inl P)), (b7, .inl (g.2.1 1, 11, .inl Lc)), (b12, .inl (g.2.1 1, 132, .inl La)), (b13, .inl (g.2.1 1, 132, .inl Lb)), (b17, .inl (g.2.1 3, 132, .inl Lo)), (b55, .inl (g.2.1 1, 49, .inl f23)), (b56, .inl (g.2.1 1, 7, .inl f26)), (b57, .inl (g.2.1 1, 7, .inl TMq))]) X hW 7 rfl (vp_in_nI (by omega) (by decide)) ef26 rfl dX12_layTree_159 (fun H locs hW => ?_)
                    refine lv_iinc (v := nI (o + 1)) (lv' := [(4, .int (nI (o + 1))), (0, .ref h0), (1, .int (nI v)), (2, .int (nI on)), (3, .int ab), (5, .int (nI kk))]) (pc := 160) hx hb dX12_layTree_160 hl (k := 4) rfl ((nI_succ o).symm) (by decide) rfl (fun ls hl => ?_)
                    refine lv_goto (tgt := 17) (pc := 163) hx hb dX12_layTree_163 rfl ?_
                    have hW : WD g A s _ _ [(h0, .inr (12, [.int i0, .ref b1, .int i2, .int i3, .int i4, .int i5, .ref b6, .ref b7, .ref b8, .ref b9, .ref b10, .ref b11, .ref b12, .ref b13, .ref b14, .ref b15, .ref b16, .ref b17, .int i18, .int i19, .int i20, .ref b21, .ref b22, .ref b23, .ref b24, .ref b25, .ref b26, .int i27, .ref b28, .ref b29, .ref b30, .ref b31, .ref b32, .ref b33, .ref b34, .ref b35, .ref b36, .int i37, .int i38, .int i39, .int i40, .int i41, .int i42, .int i43, .int i44, .int i45, .ref b46, .ref b47, .ref b48, .ref b49, .ref b50, .ref b51, .ref b52, .ref b53, .ref b54, .ref b55, .ref b56, .ref b57, .ref b58, .ref b59, .ref b60, .ref b61, .ref b62, .ref b63])), (b6, .inl (g.2.1 1, 11, .inl P)), (b7, .inl (g.2.1 1, 11, .inl Lc)), (b12, .inl (g.2.1 1, 132, .inl La)), (b13, .inl (g.2.1 1, 132, .inl Lb)), (b17, .inl (g.2.1 3, 132, .inl Lo)), (b55, .inl (g.2.1 1, 49, .inl f23)), (b56, .inl (g.2.1 1, 7, .inl f26)), (b57, .inl (g.2.1 1, 7, .inl TMq))] := hW.pick [0, 1, 2, 3, 4, 5, 6, 7, 8] rfl rfl
                    have hb9 : bd7 f23 49 := by rw [← ef23]; exact bd7_upd hB3 (by omega)
                    have hm9 : bd7 f26 7 := by rw [← ef26]; exact bd7_upd hBMq (by omega)
                    have hc9 : f26 on = nI (cn + 1) := by rw [← ef26, nI_clamp (by omega)]; exact upd_eq
                    have hf9 : ∀ y : Nat, ¬ Wr y → f26 y = BM0 y := fun y hy => by rw [← ef26, nI_clamp (by omega), upd_ne (fun q => hy (by rw [q]; exact hTP.2.1))]; exact (hfq y (fun q => hy (hs9 y q))).trans (hfr y hy)
                    exact ih1 (o + 1) (cn + 1) f23 f26 TMq (by omega) (by omega) hb9 hm9 hc9 ⟨by omega, fun q => by omega⟩ hf9 _ _ _ hW (lv_sub hl [1, 2, 3, 4, 0] rfl)
                  · have hk0 : 0 < kk := not_le0 (by omega) c20
                    obtain ⟨e1, he1, eB1⟩ := hB3 (7 * on + kk - 1) (by omega)
                    refine lv_aload_n (pc := 75) hx hb dX12_layTree_75 rfl (lv_at hl 0 rfl) ?_
                    refine r_get X hW 0 ciX12 57 rfl (by decide) m_1284 rfl rfl dX12_layTree_76 ?_
                    refine lv_aload_n (pc := 79) hx hb dX12_layTree_79 rfl (lv_at hl 0 rfl) ?_
                    refine r_get X hW 0 ciX12 55 rfl (by decide) m_1282 rfl rfl dX12_layTree_80 ?_
                    refine lv_bipush (v := 7) (pc := 83) hx hb dX12_layTree_83 (by decide) ?_
                    refine lv_iload_n (pc := 85) hx hb dX12_layTree_85 rfl (lv_at hl 2 rfl) ?_
                    refine lv_imul (pc := 86) hx hb dX12_layTree_86 ?_
                    refine lv_topi (fun uv27 euv27 => ?_)
                    obtain rfl : uv27 = nI (7 * on) := euv27.trans (pk_mul _ _)
                    refine lv_iload (pc := 87) hx hb dX12_layTree_87 (lv_at hl 5 rfl) ?_
                    refine lv_iadd (pc := 89) hx hb dX12_layTree_89 ?_
                    refine lv_topi (fun uv28 euv28 => ?_)
                    obtain rfl : uv28 = nI (7 * on + kk) := euv28.trans (nI_add _ _)
                    refine lv_iconst (v := 1) (pc := 90) hx hb dX12_layTree_90 (by decide) ?_
                    refine lv_isub (pc := 91) hx hb dX12_layTree_91 ?_
                    refine lv_topi (fun uv29 euv29 => ?_)
                    obtain rfl : uv29 = nI (7 * on + kk - 1) := euv29.trans (nI_s1 (by omega))
                    refine r_iald X hW 6 rfl (vp_in_nI (by omega) (by decide)) dX12_layTree_92 ?_
                    refine lv_topi (fun uv30 euv30 => ?_)
                    obtain rfl : uv30 = nI e1 := euv30.trans (by rw [nI_clamp (by omega)]; exact eB1)
                    refine r_iald X hW 8 rfl (vp_in_nI (by omega) (by decide)) dX12_layTree_93 ?_
                    refine lv_topi (fun uv31 euv31 => ?_)
                    refine lv_aload_n (pc := 94) hx hb dX12_layTree_94 rfl (lv_at hl 0 rfl) ?_
                    refine r_get X hW 0 ciX12 57 rfl (by decide) m_1284 rfl rfl dX12_layTree_95 ?_
                    refine lv_iload (pc := 98) hx hb dX12_layTree_98 (lv_at hl 4 rfl) ?_
                    refine r_iald X hW 8 rfl (vp_in_nI (by omega) (by decide)) dX12_layTree_100 ?_
                    refine lv_topi (fun uv32 euv32 => ?_)
                    refine lv_icmp_ge (tgt := 136) (pc := 101) hx hb dX12_layTree_101 rfl (fun c33 => ?_) (fun c33 => ?_)
                    · refine lv_aload_n (pc := 136) hx hb dX12_layTree_136 rfl (lv_at hl 0 rfl) ?_
                      refine r_get X hW 0 ciX12 55 rfl (by decide) m_1282 rfl rfl dX12_layTree_137 ?_
                      refine lv_bipush (v := 7) (pc := 140) hx hb dX12_layTree_140 (by decide) ?_
                      refine lv_iload_n (pc := 142) hx hb dX12_layTree_142 rfl (lv_at hl 2 rfl) ?_
                      refine lv_imul (pc := 143) hx hb dX12_layTree_143 ?_
                      refine lv_topi (fun uv34 euv34 => ?_)
                      obtain rfl : uv34 = nI (7 * on) := euv34.trans (pk_mul _ _)
                      refine lv_iload (pc := 144) hx hb dX12_layTree_144 (lv_at hl 5 rfl) ?_
                      refine lv_iadd (pc := 146) hx hb dX12_layTree_146 ?_
                      refine lv_topi (fun uv35 euv35 => ?_)
                      obtain rfl : uv35 = nI (7 * on + kk) := euv35.trans (nI_add _ _)
                      refine lv_iload (pc := 147) hx hb dX12_layTree_147 (lv_at hl 4 rfl) ?_
                      obtain ⟨f36, ef36⟩ : ∃ fz : Nat → Int32, upd B3 (nI (7 * on + kk)).toNatClampNeg (nI o) = fz := ⟨_, rfl⟩
                      refine r_iast (ws' := [(h0, .inr (12, [.int i0, .ref b1, .int i2, .int i3, .int i4, .int i5, .ref b6, .ref b7, .ref b8, .ref b9, .ref b10, .ref b11, .ref b12, .ref b13, .ref b14, .ref b15, .ref b16, .ref b17, .int i18, .int i19, .int i20, .ref b21, .ref b22, .ref b23, .ref b24, .ref b25, .ref b26, .int i27, .ref b28, .ref b29, .ref b30, .ref b31, .ref b32, .ref b33, .ref b34, .ref b35, .ref b36, .int i37, .int i38, .int i39, .int i40, .int i41, .int i42, .int i43, .int i44, .int i45, .ref b46, .ref b47, .ref b48, .ref b49, .ref b50, .ref b51, .ref b52, .ref b53, .ref b54, .ref b55, .ref b56, .ref b57, .ref b58, .ref b59, .ref b60, .ref b61, .ref b62, .ref b63])), (b6, .inl (g.2.1 1, 11, .inl P)), (b7, .inl (g.2.1 1, 11, .inl Lc)), (b12, .inl (g.2.1 1, 132, .inl La)), (b13, .inl (g.2.1 1, 132, .inl Lb)), (b17, .inl (g.2.1 3, 132, .inl Lo)), (b55, .inl (g.2.1 1, 49, .inl f36)), (b56, .inl (g.2.1 1, 7, .inl BMq)), (b57, .inl (g.2.1 1, 7, .inl TMq))]) X hW 6 rfl (vp_in_nI (by omega) (by decide)) ef36 rfl dX12_layTree_149 (fun H locs hW => ?_)
                      refine lv_aload_n (pc := 150) hx hb dX12_layTree_150 rfl (lv_at hl 0 rfl) ?_
                      refine r_get X hW 0 ciX12 56 rfl (by decide) m_1283 rfl rfl dX12_layTree_151 ?_
                      refine lv_iload_n (pc := 154) hx hb dX12_layTree_154 rfl (lv_at hl 2 rfl) ?_
                      refine lv_dup2_11 (pc := 155) hx hb dX12_layTree_155 rfl rfl ?_
                      refine r_iald X hW 7 rfl (vp_in_nI (by omega) (by decide)) dX12_layTree_156 ?_
                      refine lv_topi (fun uv37 euv37 => ?_)
                      obtain rfl : uv37 = nI cn := euv37.trans (by rw [nI_clamp (by omega)]; exact hc)
                      refine lv_iconst (v := 1) (pc := 157) hx hb dX12_layTree_157 (by decide) ?_
                      refine lv_iadd (pc := 158) hx hb dX12_layTree_158 ?_
                      refine lv_topi (fun uv38 euv38 => ?_)
                      obtain rfl : uv38 = nI (cn + 1) := euv38.trans (nI_1 _)
                      obtain ⟨f39, ef39⟩ : ∃ fz : Nat → Int32, upd BMq (nI on).toNatClampNeg (nI (cn + 1)) = fz := ⟨_, rfl⟩
                      refine r_iast (ws' := [(h0, .inr (12, [.int i0, .ref b1, .int i2, .int i3, .int i4, .int i5, .ref b6, .ref b7, .ref b8, .ref b9, .ref b10, .ref b11, .ref b12, .ref b13, .ref b14, .ref b15, .ref b16, .ref b17, .int i18, .int i19, .int i20, .ref b21, .ref b22, .ref b23, .ref b24, .ref b25, .ref b26, .int i27, .ref b28, .ref b29, .ref b30, .ref b31, .ref b32, .ref b33, .ref b34, .ref b35, .ref b36, .int i37, .int i38, .int i39, .int i40, .int i41, .int i42, .int i43, .int i44, .int i45, .ref b46, .ref b47, .ref b48, .ref b49, .ref b50, .ref b51, .ref b52, .ref b53, .ref b54, .ref b55, .ref b56, .ref b57, .ref b58, .ref b59, .ref b60, .ref b61, .ref b62, .ref b63])), (b6, .inl (g.2.1 1, 11, .inl P)), (b7, .inl (g.2.1 1, 11, .inl Lc)), (b12, .inl (g.2.1 1, 132, .inl La)), (b13, .inl (g.2.1 1, 132, .inl Lb)), (b17, .inl (g.2.1 3, 132, .inl Lo)), (b55, .inl (g.2.1 1, 49, .inl f36)), (b56, .inl (g.2.1 1, 7, .inl f39)), (b57, .inl (g.2.1 1, 7, .inl TMq))]) X hW 7 rfl (vp_in_nI (by omega) (by decide)) ef39 rfl dX12_layTree_159 (fun H locs hW => ?_)
                      refine lv_iinc (v := nI (o + 1)) (lv' := [(4, .int (nI (o + 1))), (0, .ref h0), (1, .int (nI v)), (2, .int (nI on)), (3, .int ab), (5, .int (nI kk))]) (pc := 160) hx hb dX12_layTree_160 hl (k := 4) rfl ((nI_succ o).symm) (by decide) rfl (fun ls hl => ?_)
                      refine lv_goto (tgt := 17) (pc := 163) hx hb dX12_layTree_163 rfl ?_
                      have hW : WD g A s _ _ [(h0, .inr (12, [.int i0, .ref b1, .int i2, .int i3, .int i4, .int i5, .ref b6, .ref b7, .ref b8, .ref b9, .ref b10, .ref b11, .ref b12, .ref b13, .ref b14, .ref b15, .ref b16, .ref b17, .int i18, .int i19, .int i20, .ref b21, .ref b22, .ref b23, .ref b24, .ref b25, .ref b26, .int i27, .ref b28, .ref b29, .ref b30, .ref b31, .ref b32, .ref b33, .ref b34, .ref b35, .ref b36, .int i37, .int i38, .int i39, .int i40, .int i41, .int i42, .int i43, .int i44, .int i45, .ref b46, .ref b47, .ref b48, .ref b49, .ref b50, .ref b51, .ref b52, .ref b53, .ref b54, .ref b55, .ref b56, .ref b57, .ref b58, .ref b59, .ref b60, .ref b61, .ref b62, .ref b63])), (b6, .inl (g.2.1 1, 11, .inl P)), (b7, .inl (g.2.1 1, 11, .inl Lc)), (b12, .inl (g.2.1 1, 132, .inl La)), (b13, .inl (g.2.1 1, 132, .inl Lb)), (b17, .inl (g.2.1 3, 132, .inl Lo)), (b55, .inl (g.2.1 1, 49, .inl f36)), (b56, .inl (g.2.1 1, 7, .inl f39)), (b57, .inl (g.2.1 1, 7, .inl TMq))] := hW.pick [0, 1, 2, 3, 4, 5, 6, 7, 8] rfl rfl
                      have hb9 : bd7 f36 49 := by rw [← ef36]; exact bd7_upd hB3 (by omega)
                      have hm9 : bd7 f39 7 := by rw [← ef39]; exact bd7_upd hBMq (by omega)
                      have hc9 : f39 on = nI (cn + 1) := by rw [← ef39, nI_clamp (by omega)]; exact upd_eq
                      have hf9 : ∀ y : Nat, ¬ Wr y → f39 y = BM0 y := fun y hy => by rw [← ef39, nI_clamp (by omega), upd_ne (fun q => hy (by rw [q]; exact hTP.2.1))]; exact (hfq y (fun q => hy (hs9 y q))).trans (hfr y hy)
                      exact ih1 (o + 1) (cn + 1) f36 f39 TMq (by omega) (by omega) hb9 hm9 hc9 ⟨by omega, fun q => by omega⟩ hf9 _ _ _ hW (lv_sub hl [1, 2, 3, 4, 0] rfl)
                    · refine lv_aload_n (pc := 104) hx hb dX12_layTree_104 rfl (lv_at hl 0 rfl) ?_
                      refine r_get X hW 0 ciX12 55 rfl (by decide) m_1282 rfl rfl dX12_layTree_105 ?_
                      refine lv_bipush (v := 7) (pc := 108) hx hb dX12_layTree_108 (by decide) ?_
                      refine lv_iload_n (pc := 110) hx hb dX12_layTree_110 rfl (lv_at hl 2 rfl) ?_
                      refine lv_imul (pc := 111) hx hb dX12_layTree_111 ?_
                      refine lv_topi (fun uv40 euv40 => ?_)
                      obtain rfl : uv40 = nI (7 * on) := euv40.trans (pk_mul _ _)
                      refine lv_iload (pc := 112) hx hb dX12_layTree_112 (lv_at hl 5 rfl) ?_
                      refine lv_iadd (pc := 114) hx hb dX12_layTree_114 ?_
                      refine lv_topi (fun uv41 euv41 => ?_)
                      obtain rfl : uv41 = nI (7 * on + kk) := euv41.trans (nI_add _ _)
                      refine lv_aload_n (pc := 115) hx hb dX12_layTree_115 rfl (lv_at hl 0 rfl) ?_
                      refine r_get X hW 0 ciX12 55 rfl (by decide) m_1282 rfl rfl dX12_layTree_116 ?_
                      refine lv_bipush (v := 7) (pc := 119) hx hb dX12_layTree_119 (by decide) ?_
                      refine lv_iload_n (pc := 121) hx hb dX12_layTree_121 rfl (lv_at hl 2 rfl) ?_
                      refine lv_imul (pc := 122) hx hb dX12_layTree_122 ?_
                      refine lv_topi (fun uv42 euv42 => ?_)
                      obtain rfl : uv42 = nI (7 * on) := euv42.trans (pk_mul _ _)
                      refine lv_iload (pc := 123) hx hb dX12_layTree_123 (lv_at hl 5 rfl) ?_
                      refine lv_iadd (pc := 125) hx hb dX12_layTree_125 ?_
                      refine lv_topi (fun uv43 euv43 => ?_)
                      obtain rfl : uv43 = nI (7 * on + kk) := euv43.trans (nI_add _ _)
                      refine lv_iconst (v := 1) (pc := 126) hx hb dX12_layTree_126 (by decide) ?_
                      refine lv_isub (pc := 127) hx hb dX12_layTree_127 ?_
                      refine lv_topi (fun uv44 euv44 => ?_)
                      obtain rfl : uv44 = nI (7 * on + kk - 1) := euv44.trans (nI_s1 (by omega))
                      refine r_iald X hW 6 rfl (vp_in_nI (by omega) (by decide)) dX12_layTree_128 ?_
                      refine lv_topi (fun uv45 euv45 => ?_)
                      obtain rfl : uv45 = nI e1 := euv45.trans (by rw [nI_clamp (by omega)]; exact eB1)
                      obtain ⟨f46, ef46⟩ : ∃ fz : Nat → Int32, upd B3 (nI (7 * on + kk)).toNatClampNeg (nI e1) = fz := ⟨_, rfl⟩
                      refine r_iast (ws' := [(h0, .inr (12, [.int i0, .ref b1, .int i2, .int i3, .int i4, .int i5, .ref b6, .ref b7, .ref b8, .ref b9, .ref b10, .ref b11, .ref b12, .ref b13, .ref b14, .ref b15, .ref b16, .ref b17, .int i18, .int i19, .int i20, .ref b21, .ref b22, .ref b23, .ref b24, .ref b25, .ref b26, .int i27, .ref b28, .ref b29, .ref b30, .ref b31, .ref b32, .ref b33, .ref b34, .ref b35, .ref b36, .int i37, .int i38, .int i39, .int i40, .int i41, .int i42, .int i43, .int i44, .int i45, .ref b46, .ref b47, .ref b48, .ref b49, .ref b50, .ref b51, .ref b52, .ref b53, .ref b54, .ref b55, .ref b56, .ref b57, .ref b58, .ref b59, .ref b60, .ref b61, .ref b62, .ref b63])), (b6, .inl (g.2.1 1, 11, .inl P)), (b7, .inl (g.2.1 1, 11, .inl Lc)), (b12, .inl (g.2.1 1, 132, .inl La)), (b13, .inl (g.2.1 1, 132, .inl Lb)), (b17, .inl (g.2.1 3, 132, .inl Lo)), (b55, .inl (g.2.1 1, 49, .inl f46)), (b56, .inl (g.2.1 1, 7, .inl BMq)), (b57, .inl (g.2.1 1, 7, .inl TMq))]) X hW 6 rfl (vp_in_nI (by omega) (by decide)) ef46 rfl dX12_layTree_129 (fun H locs hW => ?_)
                      refine lv_iinc (v := nI (kk - 1)) (lv' := [(5, .int (nI (kk - 1))), (0, .ref h0), (1, .int (nI v)), (2, .int (nI on)), (3, .int ab), (4, .int (nI o))]) (pc := 130) hx hb dX12_layTree_130 hl (k := 5) rfl (nI_d1 (by omega)) (by decide) rfl (fun ls hl => ?_)
                      refine lv_goto (tgt := 70) (pc := 133) hx hb dX12_layTree_133 rfl ?_
                      have hW : WD g A s _ _ [(h0, .inr (12, [.int i0, .ref b1, .int i2, .int i3, .int i4, .int i5, .ref b6, .ref b7, .ref b8, .ref b9, .ref b10, .ref b11, .ref b12, .ref b13, .ref b14, .ref b15, .ref b16, .ref b17, .int i18, .int i19, .int i20, .ref b21, .ref b22, .ref b23, .ref b24, .ref b25, .ref b26, .int i27, .ref b28, .ref b29, .ref b30, .ref b31, .ref b32, .ref b33, .ref b34, .ref b35, .ref b36, .int i37, .int i38, .int i39, .int i40, .int i41, .int i42, .int i43, .int i44, .int i45, .ref b46, .ref b47, .ref b48, .ref b49, .ref b50, .ref b51, .ref b52, .ref b53, .ref b54, .ref b55, .ref b56, .ref b57, .ref b58, .ref b59, .ref b60, .ref b61, .ref b62, .ref b63])), (b6, .inl (g.2.1 1, 11, .inl P)), (b7, .inl (g.2.1 1, 11, .inl Lc)), (b12, .inl (g.2.1 1, 132, .inl La)), (b13, .inl (g.2.1 1, 132, .inl Lb)), (b17, .inl (g.2.1 3, 132, .inl Lo)), (b55, .inl (g.2.1 1, 49, .inl f46)), (b56, .inl (g.2.1 1, 7, .inl BMq)), (b57, .inl (g.2.1 1, 7, .inl TMq))] := hW.pick [0, 1, 2, 3, 4, 5, 6, 7, 8] rfl rfl
                      exact ih2 (kk - 1) f46 (by omega) (by omega) (by rw [← ef46]; exact bd7_upd hB3 he1) _ _ _ hW (lv_sub hl [1, 2, 3, 4, 5, 0] rfl)
              exact loop2 (cn + 1) cn Bq (by omega) (Nat.le_refl _) hBq _ _ _ hW (lv_sub hl [1, 2, 3, 4, 5, 0] rfl)
            · refine lv_goto (tgt := 160) (pc := 51) hx hb dX12_layTree_51 rfl ?_
              refine lv_iinc (v := nI (o + 1)) (lv' := [(4, .int (nI (o + 1))), (0, .ref h0), (1, .int (nI v)), (2, .int (nI on)), (3, .int ab)]) (pc := 160) hx hb dX12_layTree_160 hl (k := 4) rfl ((nI_succ o).symm) (by decide) rfl (fun ls hl => ?_)
              refine lv_goto (tgt := 17) (pc := 163) hx hb dX12_layTree_163 rfl ?_
              have hW : WD g A s _ _ [(h0, .inr (12, [.int i0, .ref b1, .int i2, .int i3, .int i4, .int i5, .ref b6, .ref b7, .ref b8, .ref b9, .ref b10, .ref b11, .ref b12, .ref b13, .ref b14, .ref b15, .ref b16, .ref b17, .int i18, .int i19, .int i20, .ref b21, .ref b22, .ref b23, .ref b24, .ref b25, .ref b26, .int i27, .ref b28, .ref b29, .ref b30, .ref b31, .ref b32, .ref b33, .ref b34, .ref b35, .ref b36, .int i37, .int i38, .int i39, .int i40, .int i41, .int i42, .int i43, .int i44, .int i45, .ref b46, .ref b47, .ref b48, .ref b49, .ref b50, .ref b51, .ref b52, .ref b53, .ref b54, .ref b55, .ref b56, .ref b57, .ref b58, .ref b59, .ref b60, .ref b61, .ref b62, .ref b63])), (b6, .inl (g.2.1 1, 11, .inl P)), (b7, .inl (g.2.1 1, 11, .inl Lc)), (b12, .inl (g.2.1 1, 132, .inl La)), (b13, .inl (g.2.1 1, 132, .inl Lb)), (b17, .inl (g.2.1 3, 132, .inl Lo)), (b55, .inl (g.2.1 1, 49, .inl B)), (b56, .inl (g.2.1 1, 7, .inl BM)), (b57, .inl (g.2.1 1, 7, .inl TM))] := hW.pick [4, 0, 5, 6, 7, 8, 1, 2, 3] rfl rfl
              exact ih1 (o + 1) cn B BM TM (by omega) (by omega) hB hBM hc ⟨by omega, fun q => by omega⟩ hfr _ _ _ hW (lv_sub hl [1, 2, 3, 4, 0] rfl)
  exact loop1 (pp + 1) 0 0 B0 f1 f2 (by omega) (Nat.zero_le _) hB0 hbm0 hc0 ⟨Nat.le_refl _, fun q => absurd q (Nat.not_lt_zero _)⟩ hf0 _ _ _ hW (lv_sub hl [1, 2, 3, 4, 0] rfl)

theorem C_X12_layTree_all (l : Launch) (g : GG) (h0 b1 b6 b7 b8 b9 b10 b11 b12 b13 b14 b15 b16 b17 b21 b22 b23 b24 b25 b26 b28 b29 b30 b31 b32 b33 b34 b35 b36 b46 b47 b48 b49 b50 b51 b52 b53 b54 b55 b56 b57 b58 b59 b60 b61 b62 b63 : Nat) (i0 i2 i3 i4 i5 i18 i19 i20 i27 i37 i38 i39 i40 i41 i42 i43 i44 i45 : Int32) (P Lc La Lb Lo : Nat → Int32) (v lc pp : Nat) (hv : v ≤ 10) (hlc : lc ≤ 12) (hpp : pp ≤ 7) (hP : P v = nI pp) (hLc : Lc v = nI lc) : ∀ (f : Nat) (B BM TM : Nat → Int32) (on : Nat) (ab : Int32) (Wr : Nat → Prop), TPl (nbr La Lb Lo v lc) pp f on ab Wr → bd7 B 49 → bd7 BM 7 → MetV l g yX12_layTree cX12_layTree 6 none (f + 6) 0 0 [.ref h0, .int (nI v), .int (nI on), .int ab] [(h0, .inr (12, [.int i0, .ref b1, .int i2, .int i3, .int i4, .int i5, .ref b6, .ref b7, .ref b8, .ref b9, .ref b10, .ref b11, .ref b12, .ref b13, .ref b14, .ref b15, .ref b16, .ref b17, .int i18, .int i19, .int i20, .ref b21, .ref b22, .ref b23, .ref b24, .ref b25, .ref b26, .int i27, .ref b28, .ref b29, .ref b30, .ref b31, .ref b32, .ref b33, .ref b34, .ref b35, .ref b36, .int i37, .int i38, .int i39, .int i40, .int i41, .int i42, .int i43, .int i44, .int i45, .ref b46, .ref b47, .ref b48, .ref b49, .ref b50, .ref b51, .ref b52, .ref b53, .ref b54, .ref b55, .ref b56, .ref b57, .ref b58, .ref b59, .ref b60, .ref b61, .ref b62, .ref b63])), (b6, .inl (g.2.1 1, 11, .inl P)), (b7, .inl (g.2.1 1, 11, .inl Lc)), (b12, .inl (g.2.1 1, 132, .inl La)), (b13, .inl (g.2.1 1, 132, .inl Lb)), (b17, .inl (g.2.1 3, 132, .inl Lo)), (b55, .inl (g.2.1 1, 49, .inl B)), (b56, .inl (g.2.1 1, 7, .inl BM)), (b57, .inl (g.2.1 1, 7, .inl TM))] (fun u => ∃ B' BM' TM' : Nat → Int32, bd7 B' 49 ∧ bd7 BM' 7 ∧ (∀ y : Nat, ¬ Wr y → BM' y = BM y) ∧ u = [(h0, .inr (12, [.int i0, .ref b1, .int i2, .int i3, .int i4, .int i5, .ref b6, .ref b7, .ref b8, .ref b9, .ref b10, .ref b11, .ref b12, .ref b13, .ref b14, .ref b15, .ref b16, .ref b17, .int i18, .int i19, .int i20, .ref b21, .ref b22, .ref b23, .ref b24, .ref b25, .ref b26, .int i27, .ref b28, .ref b29, .ref b30, .ref b31, .ref b32, .ref b33, .ref b34, .ref b35, .ref b36, .int i37, .int i38, .int i39, .int i40, .int i41, .int i42, .int i43, .int i44, .int i45, .ref b46, .ref b47, .ref b48, .ref b49, .ref b50, .ref b51, .ref b52, .ref b53, .ref b54, .ref b55, .ref b56, .ref b57, .ref b58, .ref b59, .ref b60, .ref b61, .ref b62, .ref b63])), (b6, .inl (g.2.1 1, 11, .inl P)), (b7, .inl (g.2.1 1, 11, .inl Lc)), (b12, .inl (g.2.1 1, 132, .inl La)), (b13, .inl (g.2.1 1, 132, .inl Lb)), (b17, .inl (g.2.1 3, 132, .inl Lo)), (b55, .inl (g.2.1 1, 49, .inl B')), (b56, .inl (g.2.1 1, 7, .inl BM')), (b57, .inl (g.2.1 1, 7, .inl TM'))])
  | 0, _, _, _, _, _, _, h, _, _ => h.elim
  | f + 1, B, BM, TM, on, ab, Wr, h, hB, hBM => C_X12_layTree_step l g h0 b1 b6 b7 b8 b9 b10 b11 b12 b13 b14 b15 b16 b17 b21 b22 b23 b24 b25 b26 b28 b29 b30 b31 b32 b33 b34 b35 b36 b46 b47 b48 b49 b50 b51 b52 b53 b54 b55 b56 b57 b58 b59 b60 b61 b62 b63 i0 i2 i3 i4 i5 i18 i19 i20 i27 i37 i38 i39 i40 i41 i42 i43 i44 i45 P Lc La Lb Lo v lc pp hv hlc hpp hP hLc (f + 6) f (by omega) (C_X12_layTree_all l g h0 b1 b6 b7 b8 b9 b10 b11 b12 b13 b14 b15 b16 b17 b21 b22 b23 b24 b25 b26 b28 b29 b30 b31 b32 b33 b34 b35 b36 b46 b47 b48 b49 b50 b51 b52 b53 b54 b55 b56 b57 b58 b59 b60 b61 b62 b63 i0 i2 i3 i4 i5 i18 i19 i20 i27 i37 i38 i39 i40 i41 i42 i43 i44 i45 P Lc La Lb Lo v lc pp hv hlc hpp hP hLc f) B BM TM on ab Wr h h.1 hB hBM

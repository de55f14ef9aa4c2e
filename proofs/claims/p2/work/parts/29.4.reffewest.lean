theorem C_X12_gossips_all (l : Launch) (g : GG) (h0 b1 b6 b7 b8 b9 b10 b11 b12 b13 b14 b15 b16 b17 b21 b22 b23 b24 b25 b26 b28 b29 b30 b31 b32 b33 b34 b35 b36 b46 b47 b48 b49 b50 b51 b52 b53 b54 b55 b56 b57 b58 b59 b60 b61 b62 b63 : Nat) (i0 i2 i3 i4 i5 i18 i19 i20 i27 i37 i38 i39 i40 i41 i42 i43 i44 i45 : Int32) (P Lc La Lb lw G gr0 : Nat → Int32) (v lc pp dn : Nat) (hv : v ≤ 10) (hlc : lc ≤ 12) (hpp : pp ≤ 7) (hP : P v = nI pp) (hLc : Lc v = nI lc) (hLA : in6 La) (hLB : in6 Lb) (hg0 : gb16 gr0) (lf : Nat) (h8 : lf ≤ 8) (hdn : dn + lf ≤ 15) : MetI l g yX12_gossips cX12_gossips 10 (some .boolean) 9 0 0 [.ref h0, .int (nI v), .int (nI dn), .int (nI lf)] [(h0, .inr (12, [.int i0, .ref b1, .int i2, .int i3, .int i4, .int i5, .ref b6, .ref b7, .ref b8, .ref b9, .ref b10, .ref b11, .ref b12, .ref b13, .ref b14, .ref b15, .ref b16, .ref b17, .int i18, .int i19, .int i20, .ref b21, .ref b22, .ref b23, .ref b24, .ref b25, .ref b26, .int i27, .ref b28, .ref b29, .ref b30, .ref b31, .ref b32, .ref b33, .ref b34, .ref b35, .ref b36, .int i37, .int i38, .int i39, .int i40, .int i41, .int i42, .int i43, .int i44, .int i45, .ref b46, .ref b47, .ref b48, .ref b49, .ref b50, .ref b51, .ref b52, .ref b53, .ref b54, .ref b55, .ref b56, .ref b57, .ref b58, .ref b59, .ref b60, .ref b61, .ref b62, .ref b63])), (b6, .inl (g.2.1 1, 11, .inl P)), (b7, .inl (g.2.1 1, 11, .inl Lc)), (b12, .inl (g.2.1 1, 132, .inl La)), (b13, .inl (g.2.1 1, 132, .inl Lb)), (b48, .inl (g.2.1 3, 12, .inl lw)), (b46, .inl (g.2.1 1, 112, .inl G)), (b47, .inl (g.2.1 1, 16, .inl gr0))] (fun r u => ∃ G' gr' : Nat → Int32, (r = 0 ∨ r = 1) ∧ (gok (gV La Lb lw v lc) pp (evy (nI pp)) lf (rwt G dn) → r = 1) ∧ (∀ x : Nat, x < 7 * (dn + 1) → G' x = G x) ∧ gb16 gr' ∧ u = [(h0, .inr (12, [.int i0, .ref b1, .int i2, .int i3, .int i4, .int i5, .ref b6, .ref b7, .ref b8, .ref b9, .ref b10, .ref b11, .ref b12, .ref b13, .ref b14, .ref b15, .ref b16, .ref b17, .int i18, .int i19, .int i20, .ref b21, .ref b22, .ref b23, .ref b24, .ref b25, .ref b26, .int i27, .ref b28, .ref b29, .ref b30, .ref b31, .ref b32, .ref b33, .ref b34, .ref b35, .ref b36, .int i37, .int i38, .int i39, .int i40, .int i41, .int i42, .int i43, .int i44, .int i45, .ref b46, .ref b47, .ref b48, .ref b49, .ref b50, .ref b51, .ref b52, .ref b53, .ref b54, .ref b55, .ref b56, .ref b57, .ref b58, .ref b59, .ref b60, .ref b61, .ref b62, .ref b63])), (b6, .inl (g.2.1 1, 11, .inl P)), (b7, .inl (g.2.1 1, 11, .inl Lc)), (b12, .inl (g.2.1 1, 132, .inl La)), (b13, .inl (g.2.1 1, 132, .inl Lb)), (b48, .inl (g.2.1 3, 12, .inl lw)), (b46, .inl (g.2.1 1, 112, .inl G')), (b47, .inl (g.2.1 1, 16, .inl gr'))]) := match lf, h8, hdn with
  | 0, _, h => (C_X12_gossips_0 l g h0 b1 b6 b7 b8 b9 b10 b11 b12 b13 b14 b15 b16 b17 b21 b22 b23 b24 b25 b26 b28 b29 b30 b31 b32 b33 b34 b35 b36 b46 b47 b48 b49 b50 b51 b52 b53 b54 b55 b56 b57 b58 b59 b60 b61 b62 b63 i0 i2 i3 i4 i5 i18 i19 i20 i27 i37 i38 i39 i40 i41 i42 i43 i44 i45 P Lc La Lb lw G gr0 v lc pp dn hv hlc hpp hP hLc hLA hLB hg0 h).room (by decide)
  | 1, _, h => (C_X12_gossips_1 l g h0 b1 b6 b7 b8 b9 b10 b11 b12 b13 b14 b15 b16 b17 b21 b22 b23 b24 b25 b26 b28 b29 b30 b31 b32 b33 b34 b35 b36 b46 b47 b48 b49 b50 b51 b52 b53 b54 b55 b56 b57 b58 b59 b60 b61 b62 b63 i0 i2 i3 i4 i5 i18 i19 i20 i27 i37 i38 i39 i40 i41 i42 i43 i44 i45 P Lc La Lb lw G gr0 v lc pp dn hv hlc hpp hP hLc hLA hLB hg0 h).room (by decide)
  | 2, _, h => (C_X12_gossips_2 l g h0 b1 b6 b7 b8 b9 b10 b11 b12 b13 b14 b15 b16 b17 b21 b22 b23 b24 b25 b26 b28 b29 b30 b31 b32 b33 b34 b35 b36 b46 b47 b48 b49 b50 b51 b52 b53 b54 b55 b56 b57 b58 b59 b60 b61 b62 b63 i0 i2 i3 i4 i5 i18 i19 i20 i27 i37 i38 i39 i40 i41 i42 i43 i44 i45 P Lc La Lb lw G gr0 v lc pp dn hv hlc hpp hP hLc hLA hLB hg0 h).room (by decide)
  | 3, _, h => (C_X12_gossips_3 l g h0 b1 b6 b7 b8 b9 b10 b11 b12 b13 b14 b15 b16 b17 b21 b22 b23 b24 b25 b26 b28 b29 b30 b31 b32 b33 b34 b35 b36 b46 b47 b48 b49 b50 b51 b52 b53 b54 b55 b56 b57 b58 b59 b60 b61 b62 b63 i0 i2 i3 i4 i5 i18 i19 i20 i27 i37 i38 i39 i40 i41 i42 i43 i44 i45 P Lc La Lb lw G gr0 v lc pp dn hv hlc hpp hP hLc hLA hLB hg0 h).room (by decide)
  | 4, _, h => (C_X12_gossips_4 l g h0 b1 b6 b7 b8 b9 b10 b11 b12 b13 b14 b15 b16 b17 b21 b22 b23 b24 b25 b26 b28 b29 b30 b31 b32 b33 b34 b35 b36 b46 b47 b48 b49 b50 b51 b52 b53 b54 b55 b56 b57 b58 b59 b60 b61 b62 b63 i0 i2 i3 i4 i5 i18 i19 i20 i27 i37 i38 i39 i40 i41 i42 i43 i44 i45 P Lc La Lb lw G gr0 v lc pp dn hv hlc hpp hP hLc hLA hLB hg0 h).room (by decide)
  | 5, _, h => (C_X12_gossips_5 l g h0 b1 b6 b7 b8 b9 b10 b11 b12 b13 b14 b15 b16 b17 b21 b22 b23 b24 b25 b26 b28 b29 b30 b31 b32 b33 b34 b35 b36 b46 b47 b48 b49 b50 b51 b52 b53 b54 b55 b56 b57 b58 b59 b60 b61 b62 b63 i0 i2 i3 i4 i5 i18 i19 i20 i27 i37 i38 i39 i40 i41 i42 i43 i44 i45 P Lc La Lb lw G gr0 v lc pp dn hv hlc hpp hP hLc hLA hLB hg0 h).room (by decide)
  | 6, _, h => (C_X12_gossips_6 l g h0 b1 b6 b7 b8 b9 b10 b11 b12 b13 b14 b15 b16 b17 b21 b22 b23 b24 b25 b26 b28 b29 b30 b31 b32 b33 b34 b35 b36 b46 b47 b48 b49 b50 b51 b52 b53 b54 b55 b56 b57 b58 b59 b60 b61 b62 b63 i0 i2 i3 i4 i5 i18 i19 i20 i27 i37 i38 i39 i40 i41 i42 i43 i44 i45 P Lc La Lb lw G gr0 v lc pp dn hv hlc hpp hP hLc hLA hLB hg0 h).room (by decide)
  | 7, _, h => (C_X12_gossips_7 l g h0 b1 b6 b7 b8 b9 b10 b11 b12 b13 b14 b15 b16 b17 b21 b22 b23 b24 b25 b26 b28 b29 b30 b31 b32 b33 b34 b35 b36 b46 b47 b48 b49 b50 b51 b52 b53 b54 b55 b56 b57 b58 b59 b60 b61 b62 b63 i0 i2 i3 i4 i5 i18 i19 i20 i27 i37 i38 i39 i40 i41 i42 i43 i44 i45 P Lc La Lb lw G gr0 v lc pp dn hv hlc hpp hP hLc hLA hLB hg0 h).room (by decide)
  | 8, _, h => (C_X12_gossips_8 l g h0 b1 b6 b7 b8 b9 b10 b11 b12 b13 b14 b15 b16 b17 b21 b22 b23 b24 b25 b26 b28 b29 b30 b31 b32 b33 b34 b35 b36 b46 b47 b48 b49 b50 b51 b52 b53 b54 b55 b56 b57 b58 b59 b60 b61 b62 b63 i0 i2 i3 i4 i5 i18 i19 i20 i27 i37 i38 i39 i40 i41 i42 i43 i44 i45 P Lc La Lb lw G gr0 v lc pp dn hv hlc hpp hP hLc hLA hLB hg0 h).room (by decide)
  | n + 9, h, _ => absurd h (by omega)
/-- which lines are the lowest of those that join the same two -/
def sameE (La Lb : Nat → Int32) (v y x : Nat) : Prop := (La (12 * v + y) = La (12 * v + x) ∧ Lb (12 * v + y) = Lb (12 * v + x)) ∨ (La (12 * v + y) = Lb (12 * v + x) ∧ Lb (12 * v + y) = La (12 * v + x))
def LWI (La Lb Lo lw : Nat → Int32) (v i : Nat) : Prop := ∀ x : Nat, x < i → (¬ lw x = 0 → Lo (12 * v + x) = 0) ∧ (Lo (12 * v + x) = 0 → ∃ y : Nat, y ≤ x ∧ ¬ lw y = 0 ∧ sameE La Lb v y x)
def lb01 (lw : Nat → Int32) : Prop := ∀ j : Nat, j < 12 → lw j = 0 ∨ lw j = 1
theorem LWI_0 {La Lb Lo lw : Nat → Int32} {v : Nat} : LWI La Lb Lo lw v 0 := fun x hx => absurd hx (Nat.not_lt_zero x)
theorem LWI_s {La Lb Lo lw lw2 : Nat → Int32} {v i : Nat} (h : LWI La Lb Lo lw v i) (hx : ∀ x : Nat, x < i → lw2 x = lw x) (hJ : ¬ lw2 i = 0 → Lo (12 * v + i) = 0) (hK : Lo (12 * v + i) = 0 → ¬ lw2 i = 0 ∨ ∃ y : Nat, y < i ∧ ¬ lw y = 0 ∧ sameE La Lb v y i) : LWI La Lb Lo lw2 v (i + 1) := fun x hxi => by
  by_cases e : x = i
  · subst e
    refine ⟨hJ, fun h0 => ?_⟩
    rcases hK h0 with q | ⟨y, q1, q2, q3⟩
    · exact ⟨x, Nat.le_refl _, q, Or.inl ⟨rfl, rfl⟩⟩
    · exact ⟨y, by omega, by rw [hx y q1]; exact q2, q3⟩
  · have hl : x < i := by omega
    obtain ⟨h1, h2⟩ := h x hl
    refine ⟨fun q => h1 (by rw [← hx x hl]; exact q), fun h0 => ?_⟩
    obtain ⟨y, q1, q2, q3⟩ := h2 h0
    exact ⟨y, q1, by rw [hx y (by omega)]; exact q2, q3⟩
theorem i32_or_comm (x y : Int32) : x ||| y = y ||| x := b_ext fun i _ => by rw [b_or, b_or, Bool.or_comm]
theorem gaft_comm (th : Nat → Int32) (a b : Nat) : gaft th a b = gaft th b a := funext fun o => by
  unfold gaft
  rw [i32_or_comm (th a) (th b)]
  by_cases h : o = a ∨ o = b
  · rw [if_pos h, if_pos h.symm]
  · rw [if_neg h, if_neg (fun q => h q.symm)]
theorem gori {V : Nat × Nat → Prop} {p : Nat} : ∀ (ls : List (Nat × Nat)) (th : Nat → Int32), (∀ q ∈ ls, (V q ∨ V (q.2, q.1)) ∧ q.1 < p ∧ q.2 < p) → ∃ ls' : List (Nat × Nat), ls'.length = ls.length ∧ (∀ q ∈ ls', V q ∧ q.1 < p ∧ q.2 < p) ∧ gfold th ls' = gfold th ls
  | [], _, _ => ⟨[], rfl, fun q hq => (List.not_mem_nil hq).elim, rfl⟩
  | q :: r, th, h => by
    obtain ⟨hv, h1, h2⟩ := h q List.mem_cons_self
    obtain ⟨ls', e1, e2, e3⟩ := gori r (gaft th q.1 q.2) (fun x hx => h x (List.mem_cons_of_mem _ hx))
    rcases hv with hv | hv
    · refine ⟨q :: ls', by rw [List.length_cons, List.length_cons, e1], fun x hx => ?_, e3⟩
      rcases List.mem_cons.mp hx with rfl | hx
      · exact ⟨hv, h1, h2⟩
      · exact e2 x hx
    · refine ⟨(q.2, q.1) :: ls', by rw [List.length_cons, List.length_cons, e1], fun x hx => ?_, ?_⟩
      · rcases List.mem_cons.mp hx with rfl | hx
        · exact ⟨hv, h2, h1⟩
        · exact e2 x hx
      · rw [gfold, gfold, ← e3, gaft_comm th q.1 q.2]
theorem evy_5 : ∀ p : Nat, p < 6 → evy (nI p) = nI (2 ^ p - 1) := by decide +kernel
theorem one_5 : ∀ o : Nat, o < 5 → (1 : Int32) <<< (nI o &&& 31) = nI ([1, 2, 4, 8, 16].getD o 0) := by decide +kernel
theorem fewest_ok {La Lb Lo lw G : Nat → Int32} {v lc pp : Nat} (h1 : 1 ≤ pp) (h5 : pp ≤ 5) (hR : ∀ S : Nat → Prop, rclo La Lb Lo v lc pp S → ∀ o : Nat, o < pp → S o) (hW : LWI La Lb Lo lw v lc) (hG : ∀ o : Nat, o < pp → G o = (1 : Int32) <<< (nI o &&& 31)) : gok (gV La Lb lw v lc) pp (evy (nI pp)) 8 (rwt G 0) := by
  obtain ⟨ls, l8, hls, hall⟩ := gmain (P := fun q => gV La Lb lw v lc q ∨ gV La Lb lw v lc (q.2, q.1)) h1 h5 (fun S h0 hS => hR S ⟨h0, fun l hl a b hlo ea eb ha hb => by
    obtain ⟨y, hy, hwy, hs⟩ := (hW l hl).2 hlo
    have hV : gV La Lb lw v lc (a, b) ∨ gV La Lb lw v lc (b, a) := by
      rcases hs with ⟨s1, s2⟩ | ⟨s1, s2⟩
      · exact Or.inl ⟨y, by omega, hwy, s1.trans ea, s2.trans eb⟩
      · exact Or.inr ⟨y, by omega, hwy, s1.trans eb, s2.trans ea⟩
    rcases Nat.lt_trichotomy a b with q | q | q
    · exact hS a b q hb hV
    · rw [q]
    · exact (hS b a q ha hV.symm).symm⟩)
  obtain ⟨ls', e1, e2, e3⟩ := gori ls (rwt G 0) hls
  refine ⟨ls', by omega, e2, fun o ho => ?_⟩
  rw [e3, evy_5 pp (by omega)]
  rw [gfold_cong (p := pp) (th' := fun o => nI ([1, 2, 4, 8, 16].getD o 0)) (fun q hq => (hls q hq).2) (fun o ho => by show G (7 * 0 + o) = _; rw [Nat.mul_zero, Nat.zero_add, hG o ho, one_5 o (by omega)]) o ho]
  exact hall o ho
theorem vn1 : vp_nar .boolean 1 = 1 := rfl
theorem vn0 : vp_nar .boolean 0 = 0 := rfl
theorem m_1674 : (Cond.code yX12_fewestOf prog_14_method_67_code 4 (Option.some FieldType.int)) ∈ BW := bw (tb7 234 (by decide +kernel)) (by decide +kernel)
theorem dX12_fewestOf_0 : decode cX12_fewestOf 0 = .ok (.aload_n 0, 1) := by decide +kernel
theorem dX12_fewestOf_1 : decode cX12_fewestOf 1 = .ok (.getfield 13, 3) := by decide +kernel
theorem dX12_fewestOf_4 : decode cX12_fewestOf 4 = .ok (.iload_n 1, 1) := by decide +kernel
theorem dX12_fewestOf_5 : decode cX12_fewestOf 5 = .ok (.iaload, 1) := by decide +kernel
theorem dX12_fewestOf_6 : decode cX12_fewestOf 6 = .ok (.iconst 5, 1) := by decide +kernel
theorem dX12_fewestOf_7 : decode cX12_fewestOf 7 = .ok (.if_icmp .gt 11, 3) := by decide +kernel
theorem dX12_fewestOf_18 : decode cX12_fewestOf 18 = .ok (.iconst (-1), 1) := by decide +kernel
theorem dX12_fewestOf_19 : decode cX12_fewestOf 19 = .ok (.ireturn, 1) := by decide +kernel
theorem dX12_fewestOf_10 : decode cX12_fewestOf 10 = .ok (.aload_n 0, 1) := by decide +kernel
theorem dX12_fewestOf_11 : decode cX12_fewestOf 11 = .ok (.iload_n 1, 1) := by decide +kernel
theorem m_1675 : (Cond.methodLink "NoonValleyModel" 349 yX12_holdsAll) ∈ BW := bw (tb7 235 (by decide +kernel)) (by decide +kernel)
theorem m_1677 : (Cond.instanceMethod yX12_holdsAll) ∈ BW := bw (tb7 237 (by decide +kernel)) (by decide +kernel)
theorem s_6_9 : (Cond.selects RX12 yX12_holdsAll yX12_holdsAll) ∈ BW := bw (sl6 (y := yX12_holdsAll) (n := 64) 9 (by decide +kernel)) (by decide +kernel)
theorem vX12_349 : LV RX12 349 RX12 yX12_holdsAll cX12_holdsAll 6 (some .boolean) 1 := ⟨m_1675, m_1677, s_6_9, m_12, m_1678, rfl, by decide, by decide, by decide +kernel⟩
theorem dX12_fewestOf_12 : decode cX12_fewestOf 12 = .ok (.invokevirtual 349, 3) := by decide +kernel
theorem dX12_fewestOf_15 : decode cX12_fewestOf 15 = .ok (.ifCond .ne 5, 3) := by decide +kernel
theorem dX12_fewestOf_20 : decode cX12_fewestOf 20 = .ok (.iconst 0, 1) := by decide +kernel
theorem dX12_fewestOf_21 : decode cX12_fewestOf 21 = .ok (.istore_n 2, 1) := by decide +kernel
theorem dX12_fewestOf_22 : decode cX12_fewestOf 22 = .ok (.iload_n 2, 1) := by decide +kernel
theorem dX12_fewestOf_23 : decode cX12_fewestOf 23 = .ok (.aload_n 0, 1) := by decide +kernel
theorem dX12_fewestOf_24 : decode cX12_fewestOf 24 = .ok (.getfield 17, 3) := by decide +kernel
theorem dX12_fewestOf_27 : decode cX12_fewestOf 27 = .ok (.iload_n 1, 1) := by decide +kernel
theorem dX12_fewestOf_28 : decode cX12_fewestOf 28 = .ok (.iaload, 1) := by decide +kernel
theorem dX12_fewestOf_29 : decode cX12_fewestOf 29 = .ok (.if_icmp .ge 98, 3) := by decide +kernel
theorem dX12_fewestOf_127 : decode cX12_fewestOf 127 = .ok (.iconst 0, 1) := by decide +kernel
theorem dX12_fewestOf_128 : decode cX12_fewestOf 128 = .ok (.istore_n 2, 1) := by decide +kernel
theorem dX12_fewestOf_129 : decode cX12_fewestOf 129 = .ok (.iload_n 2, 1) := by decide +kernel
theorem dX12_fewestOf_130 : decode cX12_fewestOf 130 = .ok (.aload_n 0, 1) := by decide +kernel
theorem dX12_fewestOf_131 : decode cX12_fewestOf 131 = .ok (.getfield 13, 3) := by decide +kernel
theorem dX12_fewestOf_134 : decode cX12_fewestOf 134 = .ok (.iload_n 1, 1) := by decide +kernel
theorem dX12_fewestOf_135 : decode cX12_fewestOf 135 = .ok (.iaload, 1) := by decide +kernel
theorem dX12_fewestOf_136 : decode cX12_fewestOf 136 = .ok (.if_icmp .ge 18, 3) := by decide +kernel
theorem dX12_fewestOf_154 : decode cX12_fewestOf 154 = .ok (.iconst 0, 1) := by decide +kernel
theorem dX12_fewestOf_155 : decode cX12_fewestOf 155 = .ok (.istore_n 2, 1) := by decide +kernel
theorem dX12_fewestOf_156 : decode cX12_fewestOf 156 = .ok (.aload_n 0, 1) := by decide +kernel
theorem dX12_fewestOf_157 : decode cX12_fewestOf 157 = .ok (.iload_n 1, 1) := by decide +kernel
theorem dX12_fewestOf_158 : decode cX12_fewestOf 158 = .ok (.iconst 0, 1) := by decide +kernel
theorem dX12_fewestOf_159 : decode cX12_fewestOf 159 = .ok (.iload_n 2, 1) := by decide +kernel
theorem dX12_fewestOf_160 : decode cX12_fewestOf 160 = .ok (.invokevirtual 346, 3) := by decide +kernel
theorem dX12_fewestOf_163 : decode cX12_fewestOf 163 = .ok (.ifCond .ne 9, 3) := by decide +kernel
theorem dX12_fewestOf_172 : decode cX12_fewestOf 172 = .ok (.iload_n 2, 1) := by decide +kernel
theorem dX12_fewestOf_173 : decode cX12_fewestOf 173 = .ok (.ireturn, 1) := by decide +kernel
theorem dX12_fewestOf_166 : decode cX12_fewestOf 166 = .ok (.iinc 2 1, 3) := by decide +kernel
theorem dX12_fewestOf_169 : decode cX12_fewestOf 169 = .ok (.goto (-13), 3) := by decide +kernel
theorem dX12_fewestOf_139 : decode cX12_fewestOf 139 = .ok (.aload_n 0, 1) := by decide +kernel
theorem dX12_fewestOf_140 : decode cX12_fewestOf 140 = .ok (.getfield 104, 3) := by decide +kernel
theorem dX12_fewestOf_143 : decode cX12_fewestOf 143 = .ok (.iload_n 2, 1) := by decide +kernel
theorem dX12_fewestOf_144 : decode cX12_fewestOf 144 = .ok (.iconst 1, 1) := by decide +kernel
theorem dX12_fewestOf_145 : decode cX12_fewestOf 145 = .ok (.iload_n 2, 1) := by decide +kernel
theorem dX12_fewestOf_146 : decode cX12_fewestOf 146 = .ok (.ishl, 1) := by decide +kernel
theorem dX12_fewestOf_147 : decode cX12_fewestOf 147 = .ok (.iastore, 1) := by decide +kernel
theorem dX12_fewestOf_148 : decode cX12_fewestOf 148 = .ok (.iinc 2 1, 3) := by decide +kernel
theorem dX12_fewestOf_151 : decode cX12_fewestOf 151 = .ok (.goto (-22), 3) := by decide +kernel
theorem dX12_fewestOf_32 : decode cX12_fewestOf 32 = .ok (.aload_n 0, 1) := by decide +kernel
theorem dX12_fewestOf_33 : decode cX12_fewestOf 33 = .ok (.getfield 110, 3) := by decide +kernel
theorem dX12_fewestOf_36 : decode cX12_fewestOf 36 = .ok (.iload_n 2, 1) := by decide +kernel
theorem dX12_fewestOf_37 : decode cX12_fewestOf 37 = .ok (.aload_n 0, 1) := by decide +kernel
theorem dX12_fewestOf_38 : decode cX12_fewestOf 38 = .ok (.getfield 47, 3) := by decide +kernel
theorem dX12_fewestOf_41 : decode cX12_fewestOf 41 = .ok (.bipush 12, 2) := by decide +kernel
theorem dX12_fewestOf_43 : decode cX12_fewestOf 43 = .ok (.iload_n 1, 1) := by decide +kernel
theorem dX12_fewestOf_44 : decode cX12_fewestOf 44 = .ok (.imul, 1) := by decide +kernel
theorem dX12_fewestOf_45 : decode cX12_fewestOf 45 = .ok (.iload_n 2, 1) := by decide +kernel
theorem dX12_fewestOf_46 : decode cX12_fewestOf 46 = .ok (.iadd, 1) := by decide +kernel
theorem dX12_fewestOf_47 : decode cX12_fewestOf 47 = .ok (.baload, 1) := by decide +kernel
theorem dX12_fewestOf_48 : decode cX12_fewestOf 48 = .ok (.ifCond .ne 7, 3) := by decide +kernel
theorem dX12_fewestOf_55 : decode cX12_fewestOf 55 = .ok (.iconst 0, 1) := by decide +kernel
theorem dX12_fewestOf_56 : decode cX12_fewestOf 56 = .ok (.bastore, 1) := by decide +kernel
theorem dX12_fewestOf_57 : decode cX12_fewestOf 57 = .ok (.iconst 0, 1) := by decide +kernel
theorem dX12_fewestOf_58 : decode cX12_fewestOf 58 = .ok (.istore_n 3, 1) := by decide +kernel
theorem dX12_fewestOf_59 : decode cX12_fewestOf 59 = .ok (.iload_n 3, 1) := by decide +kernel
theorem dX12_fewestOf_60 : decode cX12_fewestOf 60 = .ok (.iload_n 2, 1) := by decide +kernel
theorem dX12_fewestOf_61 : decode cX12_fewestOf 61 = .ok (.if_icmp .ge 60, 3) := by decide +kernel
theorem dX12_fewestOf_121 : decode cX12_fewestOf 121 = .ok (.iinc 2 1, 3) := by decide +kernel
theorem dX12_fewestOf_124 : decode cX12_fewestOf 124 = .ok (.goto (-102), 3) := by decide +kernel
theorem dX12_fewestOf_64 : decode cX12_fewestOf 64 = .ok (.aload_n 0, 1) := by decide +kernel
theorem dX12_fewestOf_65 : decode cX12_fewestOf 65 = .ok (.getfield 110, 3) := by decide +kernel
theorem dX12_fewestOf_68 : decode cX12_fewestOf 68 = .ok (.iload_n 3, 1) := by decide +kernel
theorem dX12_fewestOf_69 : decode cX12_fewestOf 69 = .ok (.baload, 1) := by decide +kernel
theorem dX12_fewestOf_70 : decode cX12_fewestOf 70 = .ok (.ifCond .eq 45, 3) := by decide +kernel
theorem dX12_fewestOf_115 : decode cX12_fewestOf 115 = .ok (.iinc 3 1, 3) := by decide +kernel
theorem dX12_fewestOf_118 : decode cX12_fewestOf 118 = .ok (.goto (-59), 3) := by decide +kernel
theorem dX12_fewestOf_73 : decode cX12_fewestOf 73 = .ok (.aload_n 0, 1) := by decide +kernel
theorem dX12_fewestOf_74 : decode cX12_fewestOf 74 = .ok (.bipush 12, 2) := by decide +kernel
theorem dX12_fewestOf_76 : decode cX12_fewestOf 76 = .ok (.iload_n 1, 1) := by decide +kernel
theorem dX12_fewestOf_77 : decode cX12_fewestOf 77 = .ok (.imul, 1) := by decide +kernel
theorem dX12_fewestOf_78 : decode cX12_fewestOf 78 = .ok (.iload_n 3, 1) := by decide +kernel
theorem dX12_fewestOf_79 : decode cX12_fewestOf 79 = .ok (.iadd, 1) := by decide +kernel
theorem dX12_fewestOf_80 : decode cX12_fewestOf 80 = .ok (.aload_n 0, 1) := by decide +kernel
theorem dX12_fewestOf_81 : decode cX12_fewestOf 81 = .ok (.getfield 32, 3) := by decide +kernel
theorem dX12_fewestOf_84 : decode cX12_fewestOf 84 = .ok (.bipush 12, 2) := by decide +kernel
theorem dX12_fewestOf_86 : decode cX12_fewestOf 86 = .ok (.iload_n 1, 1) := by decide +kernel
theorem dX12_fewestOf_87 : decode cX12_fewestOf 87 = .ok (.imul, 1) := by decide +kernel
theorem dX12_fewestOf_88 : decode cX12_fewestOf 88 = .ok (.iload_n 2, 1) := by decide +kernel
theorem dX12_fewestOf_89 : decode cX12_fewestOf 89 = .ok (.iadd, 1) := by decide +kernel
theorem dX12_fewestOf_90 : decode cX12_fewestOf 90 = .ok (.iaload, 1) := by decide +kernel
theorem dX12_fewestOf_91 : decode cX12_fewestOf 91 = .ok (.aload_n 0, 1) := by decide +kernel
theorem dX12_fewestOf_92 : decode cX12_fewestOf 92 = .ok (.getfield 35, 3) := by decide +kernel
theorem dX12_fewestOf_95 : decode cX12_fewestOf 95 = .ok (.bipush 12, 2) := by decide +kernel
theorem dX12_fewestOf_97 : decode cX12_fewestOf 97 = .ok (.iload_n 1, 1) := by decide +kernel
theorem dX12_fewestOf_98 : decode cX12_fewestOf 98 = .ok (.imul, 1) := by decide +kernel
theorem dX12_fewestOf_99 : decode cX12_fewestOf 99 = .ok (.iload_n 2, 1) := by decide +kernel
theorem dX12_fewestOf_100 : decode cX12_fewestOf 100 = .ok (.iadd, 1) := by decide +kernel
theorem dX12_fewestOf_101 : decode cX12_fewestOf 101 = .ok (.iaload, 1) := by decide +kernel
theorem m_1518 : (Cond.methodLink "NoonValleyModel" 231 yX12_joins) ∈ BW := bw (tb7 78 (by decide +kernel)) (by decide +kernel)
theorem m_1520 : (Cond.instanceMethod yX12_joins) ∈ BW := bw (tb7 80 (by decide +kernel)) (by decide +kernel)
theorem s_5_1 : (Cond.selects RX12 yX12_joins yX12_joins) ∈ BW := bw (sl5 (y := yX12_joins) (n := 64) 1 (by decide +kernel)) (by decide +kernel)
theorem vX12_231 : LV RX12 231 RX12 yX12_joins cX12_joins 4 (some .boolean) 3 := ⟨m_1518, m_1520, s_5_1, m_12, m_1521, rfl, by decide, by decide, by decide +kernel⟩
theorem dX12_fewestOf_102 : decode cX12_fewestOf 102 = .ok (.invokevirtual 231, 3) := by decide +kernel
theorem dX12_fewestOf_105 : decode cX12_fewestOf 105 = .ok (.ifCond .eq 10, 3) := by decide +kernel
theorem dX12_fewestOf_108 : decode cX12_fewestOf 108 = .ok (.aload_n 0, 1) := by decide +kernel
theorem dX12_fewestOf_109 : decode cX12_fewestOf 109 = .ok (.getfield 110, 3) := by decide +kernel
theorem dX12_fewestOf_112 : decode cX12_fewestOf 112 = .ok (.iload_n 2, 1) := by decide +kernel
theorem dX12_fewestOf_113 : decode cX12_fewestOf 113 = .ok (.iconst 0, 1) := by decide +kernel
theorem dX12_fewestOf_114 : decode cX12_fewestOf 114 = .ok (.bastore, 1) := by decide +kernel
theorem dX12_fewestOf_51 : decode cX12_fewestOf 51 = .ok (.iconst 1, 1) := by decide +kernel
theorem dX12_fewestOf_52 : decode cX12_fewestOf 52 = .ok (.goto 4, 3) := by decide +kernel
set_option maxHeartbeats 40000000 in
set_option maxRecDepth 100000 in
theorem C_X12_fewestOfG (l : Launch) (g : GG) (h0 b1 b6 b7 b8 b9 b10 b11 b12 b13 b14 b15 b16 b17 b21 b22 b23 b24 b25 b26 b28 b29 b30 b31 b32 b33 b34 b35 b36 b46 b47 b48 b49 b50 b51 b52 b53 b54 b55 b56 b57 b58 b59 b60 b61 b62 b63 : Nat) (i0 i2 i3 i4 i5 i18 i19 i20 i27 i37 i38 i39 i40 i41 i42 i43 i44 i45 : Int32) (P Lc La Lb Lo : Nat → Int32) (v lc pp : Nat) (hv : v ≤ 10) (hlc : lc ≤ 12) (hpp : pp ≤ 7) (hP : P v = nI pp) (hLc : Lc v = nI lc) (lw0 G0 gr0 : Nat → Int32) (hlb : lb01 lw0) (hg0 : gb16 gr0) (hLA : in6 La) (hLB : in6 Lb) : MetI l g yX12_fewestOf cX12_fewestOf 4 (some .int) 10 0 0 [.ref h0, .int (nI v)] [(h0, .inr (12, [.int i0, .ref b1, .int i2, .int i3, .int i4, .int i5, .ref b6, .ref b7, .ref b8, .ref b9, .ref b10, .ref b11, .ref b12, .ref b13, .ref b14, .ref b15, .ref b16, .ref b17, .int i18, .int i19, .int i20, .ref b21, .ref b22, .ref b23, .ref b24, .ref b25, .ref b26, .int i27, .ref b28, .ref b29, .ref b30, .ref b31, .ref b32, .ref b33, .ref b34, .ref b35, .ref b36, .int i37, .int i38, .int i39, .int i40, .int i41, .int i42, .int i43, .int i44, .int i45, .ref b46, .ref b47, .ref b48, .ref b49, .ref b50, .ref b51, .ref b52, .ref b53, .ref b54, .ref b55, .ref b56, .ref b57, .ref b58, .ref b59, .ref b60, .ref b61, .ref b62, .ref b63])), (b6, .inl (g.2.1 1, 11, .inl P)), (b7, .inl (g.2.1 1, 11, .inl Lc)), (b12, .inl (g.2.1 1, 132, .inl La)), (b13, .inl (g.2.1 1, 132, .inl Lb)), (b17, .inl (g.2.1 3, 132, .inl Lo)), (b48, .inl (g.2.1 3, 12, .inl lw0)), (b46, .inl (g.2.1 1, 112, .inl G0)), (b47, .inl (g.2.1 1, 16, .inl gr0))] (fun r u => ∃ lw' G' gr' : Nat → Int32, (-1 ≤ r.toInt ∧ r.toInt ≤ 8) ∧ lb01 lw' ∧ gb16 gr' ∧ u = [(h0, .inr (12, [.int i0, .ref b1, .int i2, .int i3, .int i4, .int i5, .ref b6, .ref b7, .ref b8, .ref b9, .ref b10, .ref b11, .ref b12, .ref b13, .ref b14, .ref b15, .ref b16, .ref b17, .int i18, .int i19, .int i20, .ref b21, .ref b22, .ref b23, .ref b24, .ref b25, .ref b26, .int i27, .ref b28, .ref b29, .ref b30, .ref b31, .ref b32, .ref b33, .ref b34, .ref b35, .ref b36, .int i37, .int i38, .int i39, .int i40, .int i41, .int i42, .int i43, .int i44, .int i45, .ref b46, .ref b47, .ref b48, .ref b49, .ref b50, .ref b51, .ref b52, .ref b53, .ref b54, .ref b55, .ref b56, .ref b57, .ref b58, .ref b59, .ref b60, .ref b61, .ref b62, .ref b63])), (b6, .inl (g.2.1 1, 11, .inl P)), (b7, .inl (g.2.1 1, 11, .inl Lc)), (b12, .inl (g.2.1 1, 132, .inl La)), (b13, .inl (g.2.1 1, 132, .inl Lb)), (b17, .inl (g.2.1 3, 132, .inl Lo)), (b48, .inl (g.2.1 3, 12, .inl lw')), (b46, .inl (g.2.1 1, 112, .inl G')), (b47, .inl (g.2.1 1, 16, .inl gr'))]) := by
  refine MetI.of (own := RX12) rfl (by decide) (Nat.le_of_ble_eq_true rfl) ?_
  intro p e s m below meth c A ls args Q hQ X hr hin hW hl
  have hx := X.1
  have hb := X.2.1
  have hl : lv_has ls 4 [(0, .ref h0), (1, .int (nI v))] := hl
  refine lv_aload_n (pc := 0) hx hb dX12_fewestOf_0 rfl (lv_at hl 0 rfl) ?_
  refine r_get X hW 0 ciX12 6 rfl (by decide) m_1237 rfl rfl dX12_fewestOf_1 ?_
  refine lv_iload_n (pc := 4) hx hb dX12_fewestOf_4 rfl (lv_at hl 1 rfl) ?_
  refine r_iald X hW 1 rfl (vp_in_nI (by omega) (by decide)) dX12_fewestOf_5 ?_
  refine lv_topi (fun uv1 euv1 => ?_)
  obtain rfl : uv1 = nI pp := euv1.trans (by rw [nI_clamp (by omega)]; exact hP)
  refine lv_iconst (v := 5) (pc := 6) hx hb dX12_fewestOf_6 (by decide) ?_
  refine lv_icmp_gt (tgt := 18) (pc := 7) hx hb dX12_fewestOf_7 rfl (fun c2 => ?_) (fun c2 => ?_)
  · refine lv_iconst (v := (-1)) (pc := 18) hx hb dX12_fewestOf_18 (by decide) ?_
    exact e_i X hQ hr hW (u := [(h0, .inr (12, [.int i0, .ref b1, .int i2, .int i3, .int i4, .int i5, .ref b6, .ref b7, .ref b8, .ref b9, .ref b10, .ref b11, .ref b12, .ref b13, .ref b14, .ref b15, .ref b16, .ref b17, .int i18, .int i19, .int i20, .ref b21, .ref b22, .ref b23, .ref b24, .ref b25, .ref b26, .int i27, .ref b28, .ref b29, .ref b30, .ref b31, .ref b32, .ref b33, .ref b34, .ref b35, .ref b36, .int i37, .int i38, .int i39, .int i40, .int i41, .int i42, .int i43, .int i44, .int i45, .ref b46, .ref b47, .ref b48, .ref b49, .ref b50, .ref b51, .ref b52, .ref b53, .ref b54, .ref b55, .ref b56, .ref b57, .ref b58, .ref b59, .ref b60, .ref b61, .ref b62, .ref b63])), (b6, .inl (g.2.1 1, 11, .inl P)), (b7, .inl (g.2.1 1, 11, .inl Lc)), (b12, .inl (g.2.1 1, 132, .inl La)), (b13, .inl (g.2.1 1, 132, .inl Lb)), (b17, .inl (g.2.1 3, 132, .inl Lo)), (b48, .inl (g.2.1 3, 12, .inl lw0)), (b46, .inl (g.2.1 1, 112, .inl G0)), (b47, .inl (g.2.1 1, 16, .inl gr0))]) [0, 1, 2, 3, 4, 5, 6, 7, 8] rfl rfl (⟨_, _, _, ⟨by decide, by decide⟩, hlb, hg0, rfl⟩) ⟨Nat.le_of_ble_eq_true rfl, Nat.le_of_ble_eq_true rfl⟩ dX12_fewestOf_19
  · have h5 : pp ≤ 5 := (nI_leI (a := pp) (b := 5) (by omega) (by decide)).mp (Int32.not_lt.mp c2)
    refine lv_aload_n (pc := 10) hx hb dX12_fewestOf_10 rfl (lv_at hl 0 rfl) ?_
    refine lv_iload_n (pc := 11) hx hb dX12_fewestOf_11 rfl (lv_at hl 1 rfl) ?_
    refine c_Vi (pc := 12) (As := [.int (nI v)]) (rest := []) (wr := [(b48, .inl (g.2.1 3, 12, .inl lw0)), (b46, .inl (g.2.1 1, 112, .inl G0)), (b47, .inl (g.2.1 1, 16, .inl gr0))]) X hW 0 ciX12 rfl (C_X12_holdsAllG l g h0 b1 b6 b7 b8 b9 b10 b11 b12 b13 b14 b15 b16 b17 b21 b22 b23 b24 b25 b26 b28 b29 b30 b31 b32 b33 b34 b35 b36 b46 b47 b48 b49 b50 b51 b52 b53 b54 b55 b56 b57 b58 b59 b60 b61 b62 b63 i0 i2 i3 i4 i5 i18 i19 i20 i27 i37 i38 i39 i40 i41 i42 i43 i44 i45 P Lc La Lb Lo v lc pp hv hlc hpp hP hLc hLA hLB) vX12_349 [0, 1, 2, 3, 4, 5] [6, 7, 8] rfl rfl rfl rfl rfl rfl hl.1 rfl (Nat.le_of_ble_eq_true rfl) ⟨Nat.le_of_ble_eq_true rfl, Nat.le_of_ble_eq_true rfl⟩ ⟨Nat.le_of_ble_eq_true rfl, Nat.le_of_ble_eq_true rfl⟩ dX12_fewestOf_12 (fun rH u9 H locs hq hW => ?_)
    obtain ⟨hh01, hh1, rfl⟩ := hq
    have hW : WD g A s _ _ [(b48, .inl (g.2.1 3, 12, .inl lw0)), (b46, .inl (g.2.1 1, 112, .inl G0)), (b47, .inl (g.2.1 1, 16, .inl gr0)), (h0, .inr (12, [.int i0, .ref b1, .int i2, .int i3, .int i4, .int i5, .ref b6, .ref b7, .ref b8, .ref b9, .ref b10, .ref b11, .ref b12, .ref b13, .ref b14, .ref b15, .ref b16, .ref b17, .int i18, .int i19, .int i20, .ref b21, .ref b22, .ref b23, .ref b24, .ref b25, .ref b26, .int i27, .ref b28, .ref b29, .ref b30, .ref b31, .ref b32, .ref b33, .ref b34, .ref b35, .ref b36, .int i37, .int i38, .int i39, .int i40, .int i41, .int i42, .int i43, .int i44, .int i45, .ref b46, .ref b47, .ref b48, .ref b49, .ref b50, .ref b51, .ref b52, .ref b53, .ref b54, .ref b55, .ref b56, .ref b57, .ref b58, .ref b59, .ref b60, .ref b61, .ref b62, .ref b63])), (b6, .inl (g.2.1 1, 11, .inl P)), (b7, .inl (g.2.1 1, 11, .inl Lc)), (b12, .inl (g.2.1 1, 132, .inl La)), (b13, .inl (g.2.1 1, 132, .inl Lb)), (b17, .inl (g.2.1 3, 132, .inl Lo))] := hW
    refine lv_if_ne (tgt := 20) (pc := 15) hx hb dX12_fewestOf_15 rfl (fun c3 => ?_) (fun c3 => ?_)
    · obtain ⟨hp1, hR⟩ := hh1 (hh01.resolve_left c3)
      refine lv_iconst (v := 0) (pc := 20) hx hb dX12_fewestOf_20 (by decide) ?_
      refine lv_istore_n (lv' := [(2, .int 0), (0, .ref h0), (1, .int (nI v))]) (pc := 21) hx hb dX12_fewestOf_21 rfl hl (by decide) rfl (fun ls hl => ?_)
      have hW : WD g A s _ _ [(h0, .inr (12, [.int i0, .ref b1, .int i2, .int i3, .int i4, .int i5, .ref b6, .ref b7, .ref b8, .ref b9, .ref b10, .ref b11, .ref b12, .ref b13, .ref b14, .ref b15, .ref b16, .ref b17, .int i18, .int i19, .int i20, .ref b21, .ref b22, .ref b23, .ref b24, .ref b25, .ref b26, .int i27, .ref b28, .ref b29, .ref b30, .ref b31, .ref b32, .ref b33, .ref b34, .ref b35, .ref b36, .int i37, .int i38, .int i39, .int i40, .int i41, .int i42, .int i43, .int i44, .int i45, .ref b46, .ref b47, .ref b48, .ref b49, .ref b50, .ref b51, .ref b52, .ref b53, .ref b54, .ref b55, .ref b56, .ref b57, .ref b58, .ref b59, .ref b60, .ref b61, .ref b62, .ref b63])), (b6, .inl (g.2.1 1, 11, .inl P)), (b7, .inl (g.2.1 1, 11, .inl Lc)), (b12, .inl (g.2.1 1, 132, .inl La)), (b13, .inl (g.2.1 1, 132, .inl Lb)), (b17, .inl (g.2.1 3, 132, .inl Lo)), (b48, .inl (g.2.1 3, 12, .inl lw0)), (b46, .inl (g.2.1 1, 112, .inl G0)), (b47, .inl (g.2.1 1, 16, .inl gr0))] := hW.pick [3, 4, 5, 6, 7, 8, 0, 1, 2] rfl rfl
      have loop1 : ∀ (fu : Nat) (i : Nat) (lw : Nat → Int32), (lc < fu + i) → (i ≤ lc) → (lb01 lw) → (LWI La Lb Lo lw v i) → ∀ (H : Heap) (locs : List Loc) (ls : Array Slot), WD g A s H locs [(h0, .inr (12, [.int i0, .ref b1, .int i2, .int i3, .int i4, .int i5, .ref b6, .ref b7, .ref b8, .ref b9, .ref b10, .ref b11, .ref b12, .ref b13, .ref b14, .ref b15, .ref b16, .ref b17, .int i18, .int i19, .int i20, .ref b21, .ref b22, .ref b23, .ref b24, .ref b25, .ref b26, .int i27, .ref b28, .ref b29, .ref b30, .ref b31, .ref b32, .ref b33, .ref b34, .ref b35, .ref b36, .int i37, .int i38, .int i39, .int i40, .int i41, .int i42, .int i43, .int i44, .int i45, .ref b46, .ref b47, .ref b48, .ref b49, .ref b50, .ref b51, .ref b52, .ref b53, .ref b54, .ref b55, .ref b56, .ref b57, .ref b58, .ref b59, .ref b60, .ref b61, .ref b62, .ref b63])), (b6, .inl (g.2.1 1, 11, .inl P)), (b7, .inl (g.2.1 1, 11, .inl Lc)), (b12, .inl (g.2.1 1, 132, .inl La)), (b13, .inl (g.2.1 1, 132, .inl Lb)), (b17, .inl (g.2.1 3, 132, .inl Lo)), (b48, .inl (g.2.1 3, 12, .inl lw)), (b46, .inl (g.2.1 1, 112, .inl G0)), (b47, .inl (g.2.1 1, 16, .inl gr0))] → lv_has ls 4 [(0, .ref h0), (1, .int (nI v)), (2, .int (nI i))] → W p l e (RM 10 0 0) s m args below meth c H locs 0 0 Q (F0 m 22 ls []) := by
        intro fu
        induction fu with
        | zero =>
          intro i lw hm hi hb1 hLW
          exact absurd hm (by omega)
        | succ fu ih1 =>
          intro i lw hm hi hb1 hLW H locs ls hW hl
          refine lv_iload_n (pc := 22) hx hb dX12_fewestOf_22 rfl (lv_at hl 2 rfl) ?_
          refine lv_aload_n (pc := 23) hx hb dX12_fewestOf_23 rfl (lv_at hl 0 rfl) ?_
          refine r_get X hW 0 ciX12 7 rfl (by decide) m_1238 rfl rfl dX12_fewestOf_24 ?_
          refine lv_iload_n (pc := 27) hx hb dX12_fewestOf_27 rfl (lv_at hl 1 rfl) ?_
          refine r_iald X hW 2 rfl (vp_in_nI (by omega) (by decide)) dX12_fewestOf_28 ?_
          refine lv_topi (fun uv4 euv4 => ?_)
          obtain rfl : uv4 = nI lc := euv4.trans (by rw [nI_clamp (by omega)]; exact hLc)
          refine lv_icmp_ge (tgt := 127) (pc := 29) hx hb dX12_fewestOf_29 rfl (fun c5 => ?_) (fun c5 => ?_)
          · have hie : i = lc := Nat.le_antisymm hi (ge_t (by omega) (by omega) c5)
            rw [hie] at hLW
            refine lv_iconst (v := 0) (pc := 127) hx hb dX12_fewestOf_127 (by decide) ?_
            refine lv_istore_n (lv' := [(2, .int 0), (0, .ref h0), (1, .int (nI v))]) (pc := 128) hx hb dX12_fewestOf_128 rfl hl (by decide) rfl (fun ls hl => ?_)
            have hW : WD g A s _ _ [(h0, .inr (12, [.int i0, .ref b1, .int i2, .int i3, .int i4, .int i5, .ref b6, .ref b7, .ref b8, .ref b9, .ref b10, .ref b11, .ref b12, .ref b13, .ref b14, .ref b15, .ref b16, .ref b17, .int i18, .int i19, .int i20, .ref b21, .ref b22, .ref b23, .ref b24, .ref b25, .ref b26, .int i27, .ref b28, .ref b29, .ref b30, .ref b31, .ref b32, .ref b33, .ref b34, .ref b35, .ref b36, .int i37, .int i38, .int i39, .int i40, .int i41, .int i42, .int i43, .int i44, .int i45, .ref b46, .ref b47, .ref b48, .ref b49, .ref b50, .ref b51, .ref b52, .ref b53, .ref b54, .ref b55, .ref b56, .ref b57, .ref b58, .ref b59, .ref b60, .ref b61, .ref b62, .ref b63])), (b6, .inl (g.2.1 1, 11, .inl P)), (b7, .inl (g.2.1 1, 11, .inl Lc)), (b12, .inl (g.2.1 1, 132, .inl La)), (b13, .inl (g.2.1 1, 132, .inl Lb)), (b17, .inl (g.2.1 3, 132, .inl Lo)), (b48, .inl (g.2.1 3, 12, .inl lw)), (b46, .inl (g.2.1 1, 112, .inl G0)), (b47, .inl (g.2.1 1, 16, .inl gr0))] := hW.pick [0, 1, 2, 3, 4, 5, 6, 7, 8] rfl rfl
            have loop3 : ∀ (fx : Nat) (k : Nat) (G : Nat → Int32), (pp < fx + k) → (k ≤ pp) → (∀ y : Nat, y < k → G y = (1 : Int32) <<< (nI y &&& 31)) → ∀ (H : Heap) (locs : List Loc) (ls : Array Slot), WD g A s H locs [(h0, .inr (12, [.int i0, .ref b1, .int i2, .int i3, .int i4, .int i5, .ref b6, .ref b7, .ref b8, .ref b9, .ref b10, .ref b11, .ref b12, .ref b13, .ref b14, .ref b15, .ref b16, .ref b17, .int i18, .int i19, .int i20, .ref b21, .ref b22, .ref b23, .ref b24, .ref b25, .ref b26, .int i27, .ref b28, .ref b29, .ref b30, .ref b31, .ref b32, .ref b33, .ref b34, .ref b35, .ref b36, .int i37, .int i38, .int i39, .int i40, .int i41, .int i42, .int i43, .int i44, .int i45, .ref b46, .ref b47, .ref b48, .ref b49, .ref b50, .ref b51, .ref b52, .ref b53, .ref b54, .ref b55, .ref b56, .ref b57, .ref b58, .ref b59, .ref b60, .ref b61, .ref b62, .ref b63])), (b6, .inl (g.2.1 1, 11, .inl P)), (b7, .inl (g.2.1 1, 11, .inl Lc)), (b12, .inl (g.2.1 1, 132, .inl La)), (b13, .inl (g.2.1 1, 132, .inl Lb)), (b17, .inl (g.2.1 3, 132, .inl Lo)), (b48, .inl (g.2.1 3, 12, .inl lw)), (b46, .inl (g.2.1 1, 112, .inl G)), (b47, .inl (g.2.1 1, 16, .inl gr0))] → lv_has ls 4 [(0, .ref h0), (1, .int (nI v)), (2, .int (nI k))] → W p l e (RM 10 0 0) s m args below meth c H locs 0 0 Q (F0 m 129 ls []) := by
              intro fx
              induction fx with
              | zero =>
                intro k G hm3 hk hT1
                exact absurd hm3 (by omega)
              | succ fx ih3 =>
                intro k G hm3 hk hT1 H locs ls hW hl
                refine lv_iload_n (pc := 129) hx hb dX12_fewestOf_129 rfl (lv_at hl 2 rfl) ?_
                refine lv_aload_n (pc := 130) hx hb dX12_fewestOf_130 rfl (lv_at hl 0 rfl) ?_
                refine r_get X hW 0 ciX12 6 rfl (by decide) m_1237 rfl rfl dX12_fewestOf_131 ?_
                refine lv_iload_n (pc := 134) hx hb dX12_fewestOf_134 rfl (lv_at hl 1 rfl) ?_
                refine r_iald X hW 1 rfl (vp_in_nI (by omega) (by decide)) dX12_fewestOf_135 ?_
                refine lv_topi (fun uv6 euv6 => ?_)
                obtain rfl : uv6 = nI pp := euv6.trans (by rw [nI_clamp (by omega)]; exact hP)
                refine lv_icmp_ge (tgt := 154) (pc := 136) hx hb dX12_fewestOf_136 rfl (fun c7 => ?_) (fun c7 => ?_)
                · have hkp : k = pp := Nat.le_antisymm hk (ge_t (by omega) (by omega) c7)
                  rw [hkp] at hT1
                  have hgk := fewest_ok hp1 h5 hR hLW hT1
                  refine lv_iconst (v := 0) (pc := 154) hx hb dX12_fewestOf_154 (by decide) ?_
                  refine lv_istore_n (lv' := [(2, .int 0), (0, .ref h0), (1, .int (nI v))]) (pc := 155) hx hb dX12_fewestOf_155 rfl hl (by decide) rfl (fun ls hl => ?_)
                  have hW : WD g A s _ _ [(h0, .inr (12, [.int i0, .ref b1, .int i2, .int i3, .int i4, .int i5, .ref b6, .ref b7, .ref b8, .ref b9, .ref b10, .ref b11, .ref b12, .ref b13, .ref b14, .ref b15, .ref b16, .ref b17, .int i18, .int i19, .int i20, .ref b21, .ref b22, .ref b23, .ref b24, .ref b25, .ref b26, .int i27, .ref b28, .ref b29, .ref b30, .ref b31, .ref b32, .ref b33, .ref b34, .ref b35, .ref b36, .int i37, .int i38, .int i39, .int i40, .int i41, .int i42, .int i43, .int i44, .int i45, .ref b46, .ref b47, .ref b48, .ref b49, .ref b50, .ref b51, .ref b52, .ref b53, .ref b54, .ref b55, .ref b56, .ref b57, .ref b58, .ref b59, .ref b60, .ref b61, .ref b62, .ref b63])), (b6, .inl (g.2.1 1, 11, .inl P)), (b7, .inl (g.2.1 1, 11, .inl Lc)), (b12, .inl (g.2.1 1, 132, .inl La)), (b13, .inl (g.2.1 1, 132, .inl Lb)), (b17, .inl (g.2.1 3, 132, .inl Lo)), (b48, .inl (g.2.1 3, 12, .inl lw)), (b46, .inl (g.2.1 1, 112, .inl G)), (b47, .inl (g.2.1 1, 16, .inl gr0))] := hW.pick [0, 1, 2, 3, 4, 5, 6, 7, 8] rfl rfl
                  have loop4 : ∀ (fy : Nat) (nn : Nat) (G3 : Nat → Int32) (gr : Nat → Int32), (9 < fy + nn) → (nn ≤ 8) → (∀ x : Nat, x < 7 → G3 x = G x) → (gb16 gr) → ∀ (H : Heap) (locs : List Loc) (ls : Array Slot), WD g A s H locs [(h0, .inr (12, [.int i0, .ref b1, .int i2, .int i3, .int i4, .int i5, .ref b6, .ref b7, .ref b8, .ref b9, .ref b10, .ref b11, .ref b12, .ref b13, .ref b14, .ref b15, .ref b16, .ref b17, .int i18, .int i19, .int i20, .ref b21, .ref b22, .ref b23, .ref b24, .ref b25, .ref b26, .int i27, .ref b28, .ref b29, .ref b30, .ref b31, .ref b32, .ref b33, .ref b34, .ref b35, .ref b36, .int i37, .int i38, .int i39, .int i40, .int i41, .int i42, .int i43, .int i44, .int i45, .ref b46, .ref b47, .ref b48, .ref b49, .ref b50, .ref b51, .ref b52, .ref b53, .ref b54, .ref b55, .ref b56, .ref b57, .ref b58, .ref b59, .ref b60, .ref b61, .ref b62, .ref b63])), (b6, .inl (g.2.1 1, 11, .inl P)), (b7, .inl (g.2.1 1, 11, .inl Lc)), (b12, .inl (g.2.1 1, 132, .inl La)), (b13, .inl (g.2.1 1, 132, .inl Lb)), (b17, .inl (g.2.1 3, 132, .inl Lo)), (b48, .inl (g.2.1 3, 12, .inl lw)), (b46, .inl (g.2.1 1, 112, .inl G3)), (b47, .inl (g.2.1 1, 16, .inl gr))] → lv_has ls 4 [(0, .ref h0), (1, .int (nI v)), (2, .int (nI nn))] → W p l e (RM 10 0 0) s m args below meth c H locs 0 0 Q (F0 m 156 ls []) := by
                    intro fy
                    induction fy with
                    | zero =>
                      intro nn G3 gr hm4 hn8 hG3 hgr
                      exact absurd hm4 (by omega)
                    | succ fy ih4 =>
                      intro nn G3 gr hm4 hn8 hG3 hgr H locs ls hW hl
                      refine lv_aload_n (pc := 156) hx hb dX12_fewestOf_156 rfl (lv_at hl 0 rfl) ?_
                      refine lv_iload_n (pc := 157) hx hb dX12_fewestOf_157 rfl (lv_at hl 1 rfl) ?_
                      refine lv_iconst (v := 0) (pc := 158) hx hb dX12_fewestOf_158 (by decide) ?_
                      refine lv_iload_n (pc := 159) hx hb dX12_fewestOf_159 rfl (lv_at hl 2 rfl) ?_
                      refine c_Vi (pc := 160) (As := [.int (nI v), .int 0, .int (nI nn)]) (rest := []) (wr := [(b17, .inl (g.2.1 3, 132, .inl Lo))]) X hW 0 ciX12 rfl (C_X12_gossips_all l g h0 b1 b6 b7 b8 b9 b10 b11 b12 b13 b14 b15 b16 b17 b21 b22 b23 b24 b25 b26 b28 b29 b30 b31 b32 b33 b34 b35 b36 b46 b47 b48 b49 b50 b51 b52 b53 b54 b55 b56 b57 b58 b59 b60 b61 b62 b63 i0 i2 i3 i4 i5 i18 i19 i20 i27 i37 i38 i39 i40 i41 i42 i43 i44 i45 P Lc La Lb lw G3 gr v lc pp 0 hv hlc hpp hP hLc hLA hLB hgr nn hn8 (by omega)) vX12_346 [0, 1, 2, 3, 4, 6, 7, 8] [5] rfl rfl rfl rfl rfl rfl hl.1 rfl (Nat.le_of_ble_eq_true rfl) ⟨Nat.le_of_ble_eq_true rfl, Nat.le_of_ble_eq_true rfl⟩ ⟨Nat.le_of_ble_eq_true rfl, Nat.le_of_ble_eq_true rfl⟩ dX12_fewestOf_160 (fun rG u9 H locs hq hW => ?_)
                      obtain ⟨Gq, gq, -, hq1, hq2, hgq, rfl⟩ := hq
                      have hW : WD g A s _ _ [(b17, .inl (g.2.1 3, 132, .inl Lo)), (h0, .inr (12, [.int i0, .ref b1, .int i2, .int i3, .int i4, .int i5, .ref b6, .ref b7, .ref b8, .ref b9, .ref b10, .ref b11, .ref b12, .ref b13, .ref b14, .ref b15, .ref b16, .ref b17, .int i18, .int i19, .int i20, .ref b21, .ref b22, .ref b23, .ref b24, .ref b25, .ref b26, .int i27, .ref b28, .ref b29, .ref b30, .ref b31, .ref b32, .ref b33, .ref b34, .ref b35, .ref b36, .int i37, .int i38, .int i39, .int i40, .int i41, .int i42, .int i43, .int i44, .int i45, .ref b46, .ref b47, .ref b48, .ref b49, .ref b50, .ref b51, .ref b52, .ref b53, .ref b54, .ref b55, .ref b56, .ref b57, .ref b58, .ref b59, .ref b60, .ref b61, .ref b62, .ref b63])), (b6, .inl (g.2.1 1, 11, .inl P)), (b7, .inl (g.2.1 1, 11, .inl Lc)), (b12, .inl (g.2.1 1, 132, .inl La)), (b13, .inl (g.2.1 1, 132, .inl Lb)), (b48, .inl (g.2.1 3, 12, .inl lw)), (b46, .inl (g.2.1 1, 112, .inl Gq)), (b47, .inl (g.2.1 1, 16, .inl gq))] := hW
                      refine lv_if_ne (tgt := 172) (pc := 163) hx hb dX12_fewestOf_163 rfl (fun c8 => ?_) (fun c8 => ?_)
                      · refine lv_iload_n (pc := 172) hx hb dX12_fewestOf_172 rfl (lv_at hl 2 rfl) ?_
                        exact e_i X hQ hr hW (u := [(h0, .inr (12, [.int i0, .ref b1, .int i2, .int i3, .int i4, .int i5, .ref b6, .ref b7, .ref b8, .ref b9, .ref b10, .ref b11, .ref b12, .ref b13, .ref b14, .ref b15, .ref b16, .ref b17, .int i18, .int i19, .int i20, .ref b21, .ref b22, .ref b23, .ref b24, .ref b25, .ref b26, .int i27, .ref b28, .ref b29, .ref b30, .ref b31, .ref b32, .ref b33, .ref b34, .ref b35, .ref b36, .int i37, .int i38, .int i39, .int i40, .int i41, .int i42, .int i43, .int i44, .int i45, .ref b46, .ref b47, .ref b48, .ref b49, .ref b50, .ref b51, .ref b52, .ref b53, .ref b54, .ref b55, .ref b56, .ref b57, .ref b58, .ref b59, .ref b60, .ref b61, .ref b62, .ref b63])), (b6, .inl (g.2.1 1, 11, .inl P)), (b7, .inl (g.2.1 1, 11, .inl Lc)), (b12, .inl (g.2.1 1, 132, .inl La)), (b13, .inl (g.2.1 1, 132, .inl Lb)), (b17, .inl (g.2.1 3, 132, .inl Lo)), (b48, .inl (g.2.1 3, 12, .inl lw)), (b46, .inl (g.2.1 1, 112, .inl Gq)), (b47, .inl (g.2.1 1, 16, .inl gq))]) [1, 2, 3, 4, 5, 0, 6, 7, 8] rfl rfl (⟨_, _, _, ⟨by rw [nI_toInt (by omega)]; omega, by rw [nI_toInt (by omega)]; omega⟩, hb1, hgq, rfl⟩) ⟨Nat.le_of_ble_eq_true rfl, Nat.le_of_ble_eq_true rfl⟩ dX12_fewestOf_173
                      · have hn7 : nn < 8 := by
                          rcases Nat.lt_or_ge nn 8 with q | q
                          · exact q
                          · have e8 : nn = 8 := by omega
                            subst e8
                            exact absurd (hq1 (gok_cong hgk (fun o ho => by show G (7 * 0 + o) = G3 (7 * 0 + o); rw [hG3 _ (by omega)]))) (by rw [c8]; decide)
                        refine lv_iinc (v := nI (nn + 1)) (lv' := [(2, .int (nI (nn + 1))), (0, .ref h0), (1, .int (nI v))]) (pc := 166) hx hb dX12_fewestOf_166 hl (k := 2) rfl ((nI_succ nn).symm) (by decide) rfl (fun ls hl => ?_)
                        refine lv_goto (tgt := 156) (pc := 169) hx hb dX12_fewestOf_169 rfl ?_
                        have hW : WD g A s _ _ [(h0, .inr (12, [.int i0, .ref b1, .int i2, .int i3, .int i4, .int i5, .ref b6, .ref b7, .ref b8, .ref b9, .ref b10, .ref b11, .ref b12, .ref b13, .ref b14, .ref b15, .ref b16, .ref b17, .int i18, .int i19, .int i20, .ref b21, .ref b22, .ref b23, .ref b24, .ref b25, .ref b26, .int i27, .ref b28, .ref b29, .ref b30, .ref b31, .ref b32, .ref b33, .ref b34, .ref b35, .ref b36, .int i37, .int i38, .int i39, .int i40, .int i41, .int i42, .int i43, .int i44, .int i45, .ref b46, .ref b47, .ref b48, .ref b49, .ref b50, .ref b51, .ref b52, .ref b53, .ref b54, .ref b55, .ref b56, .ref b57, .ref b58, .ref b59, .ref b60, .ref b61, .ref b62, .ref b63])), (b6, .inl (g.2.1 1, 11, .inl P)), (b7, .inl (g.2.1 1, 11, .inl Lc)), (b12, .inl (g.2.1 1, 132, .inl La)), (b13, .inl (g.2.1 1, 132, .inl Lb)), (b17, .inl (g.2.1 3, 132, .inl Lo)), (b48, .inl (g.2.1 3, 12, .inl lw)), (b46, .inl (g.2.1 1, 112, .inl Gq)), (b47, .inl (g.2.1 1, 16, .inl gq))] := hW.pick [1, 2, 3, 4, 5, 0, 6, 7, 8] rfl rfl
                        exact ih4 (nn + 1) Gq gq (by omega) (by omega) (fun x hx => (hq2 x (by omega)).trans (hG3 x hx)) hgq _ _ _ hW (lv_sub hl [1, 2, 0] rfl)
                  exact loop4 10 0 G gr0 (by omega) (Nat.zero_le _) (fun x hx => rfl) hg0 _ _ _ hW (lv_sub hl [1, 2, 0] rfl)
                · have hkl : k < pp := ge_f (by omega) (by omega) c7
                  refine lv_aload_n (pc := 139) hx hb dX12_fewestOf_139 rfl (lv_at hl 0 rfl) ?_
                  refine r_get X hW 0 ciX12 46 rfl (by decide) m_1273 rfl rfl dX12_fewestOf_140 ?_
                  refine lv_iload_n (pc := 143) hx hb dX12_fewestOf_143 rfl (lv_at hl 2 rfl) ?_
                  refine lv_iconst (v := 1) (pc := 144) hx hb dX12_fewestOf_144 (by decide) ?_
                  refine lv_iload_n (pc := 145) hx hb dX12_fewestOf_145 rfl (lv_at hl 2 rfl) ?_
                  refine lv_ishl (pc := 146) hx hb dX12_fewestOf_146 ?_
                  refine lv_topi (fun uv9 euv9 => ?_)
                  obtain rfl : uv9 = (1 : Int32) <<< (nI k &&& 31) := euv9.trans (rfl)
                  obtain ⟨f10, ef10⟩ : ∃ fz : Nat → Int32, upd G (nI k).toNatClampNeg ((1 : Int32) <<< (nI k &&& 31)) = fz := ⟨_, rfl⟩
                  refine r_iast (ws' := [(h0, .inr (12, [.int i0, .ref b1, .int i2, .int i3, .int i4, .int i5, .ref b6, .ref b7, .ref b8, .ref b9, .ref b10, .ref b11, .ref b12, .ref b13, .ref b14, .ref b15, .ref b16, .ref b17, .int i18, .int i19, .int i20, .ref b21, .ref b22, .ref b23, .ref b24, .ref b25, .ref b26, .int i27, .ref b28, .ref b29, .ref b30, .ref b31, .ref b32, .ref b33, .ref b34, .ref b35, .ref b36, .int i37, .int i38, .int i39, .int i40, .int i41, .int i42, .int i43, .int i44, .int i45, .ref b46, .ref b47, .ref b48, .ref b49, .ref b50, .ref b51, .ref b52, .ref b53, .ref b54, .ref b55, .ref b56, .ref b57, .ref b58, .ref b59, .ref b60, .ref b61, .ref b62, .ref b63])), (b6, .inl (g.2.1 1, 11, .inl P)), (b7, .inl (g.2.1 1, 11, .inl Lc)), (b12, .inl (g.2.1 1, 132, .inl La)), (b13, .inl (g.2.1 1, 132, .inl Lb)), (b17, .inl (g.2.1 3, 132, .inl Lo)), (b48, .inl (g.2.1 3, 12, .inl lw)), (b46, .inl (g.2.1 1, 112, .inl f10)), (b47, .inl (g.2.1 1, 16, .inl gr0))]) X hW 7 rfl (vp_in_nI (by omega) (by decide)) ef10 rfl dX12_fewestOf_147 (fun H locs hW => ?_)
                  refine lv_iinc (v := nI (k + 1)) (lv' := [(2, .int (nI (k + 1))), (0, .ref h0), (1, .int (nI v))]) (pc := 148) hx hb dX12_fewestOf_148 hl (k := 2) rfl ((nI_succ k).symm) (by decide) rfl (fun ls hl => ?_)
                  refine lv_goto (tgt := 129) (pc := 151) hx hb dX12_fewestOf_151 rfl ?_
                  have hW : WD g A s _ _ [(h0, .inr (12, [.int i0, .ref b1, .int i2, .int i3, .int i4, .int i5, .ref b6, .ref b7, .ref b8, .ref b9, .ref b10, .ref b11, .ref b12, .ref b13, .ref b14, .ref b15, .ref b16, .ref b17, .int i18, .int i19, .int i20, .ref b21, .ref b22, .ref b23, .ref b24, .ref b25, .ref b26, .int i27, .ref b28, .ref b29, .ref b30, .ref b31, .ref b32, .ref b33, .ref b34, .ref b35, .ref b36, .int i37, .int i38, .int i39, .int i40, .int i41, .int i42, .int i43, .int i44, .int i45, .ref b46, .ref b47, .ref b48, .ref b49, .ref b50, .ref b51, .ref b52, .ref b53, .ref b54, .ref b55, .ref b56, .ref b57, .ref b58, .ref b59, .ref b60, .ref b61, .ref b62, .ref b63])), (b6, .inl (g.2.1 1, 11, .inl P)), (b7, .inl (g.2.1 1, 11, .inl Lc)), (b12, .inl (g.2.1 1, 132, .inl La)), (b13, .inl (g.2.1 1, 132, .inl Lb)), (b17, .inl (g.2.1 3, 132, .inl Lo)), (b48, .inl (g.2.1 3, 12, .inl lw)), (b46, .inl (g.2.1 1, 112, .inl f10)), (b47, .inl (g.2.1 1, 16, .inl gr0))] := hW.pick [0, 1, 2, 3, 4, 5, 6, 7, 8] rfl rfl
                  exact ih3 (k + 1) f10 (by omega) (by omega) (fun y hy => by
                      rw [← ef10, nI_clamp (by omega)]
                      by_cases e9 : y = k
                      · subst e9; simp only [upd, if_true]
                      · simp only [upd, e9, if_false]; exact hT1 y (by omega)) _ _ _ hW (lv_sub hl [1, 2, 0] rfl)
            exact loop3 (pp + 1) 0 G0 (by omega) (Nat.zero_le _) (fun y hy => absurd hy (Nat.not_lt_zero y)) _ _ _ hW (lv_sub hl [1, 2, 0] rfl)
          · have hil : i < lc := ge_f (by omega) (by omega) c5
            refine lv_aload_n (pc := 32) hx hb dX12_fewestOf_32 rfl (lv_at hl 0 rfl) ?_
            refine r_get X hW 0 ciX12 48 rfl (by decide) m_1275 rfl rfl dX12_fewestOf_33 ?_
            refine lv_iload_n (pc := 36) hx hb dX12_fewestOf_36 rfl (lv_at hl 2 rfl) ?_
            refine lv_aload_n (pc := 37) hx hb dX12_fewestOf_37 rfl (lv_at hl 0 rfl) ?_
            refine r_get X hW 0 ciX12 17 rfl (by decide) m_1248 rfl rfl dX12_fewestOf_38 ?_
            refine lv_bipush (v := 12) (pc := 41) hx hb dX12_fewestOf_41 (by decide) ?_
            refine lv_iload_n (pc := 43) hx hb dX12_fewestOf_43 rfl (lv_at hl 1 rfl) ?_
            refine lv_imul (pc := 44) hx hb dX12_fewestOf_44 ?_
            refine lv_topi (fun uv11 euv11 => ?_)
            obtain rfl : uv11 = nI (12 * v) := euv11.trans (pk_mul _ _)
            refine lv_iload_n (pc := 45) hx hb dX12_fewestOf_45 rfl (lv_at hl 2 rfl) ?_
            refine lv_iadd (pc := 46) hx hb dX12_fewestOf_46 ?_
            refine lv_topi (fun uv12 euv12 => ?_)
            obtain rfl : uv12 = nI (12 * v + i) := euv12.trans (nI_add _ _)
            refine r_zald X hW 5 rfl (vp_in_nI (by omega) (by decide)) dX12_fewestOf_47 ?_
            refine lv_topi (fun uv13 euv13 => ?_)
            obtain rfl : uv13 = Lo (12 * v + i) := euv13.trans (by rw [nI_clamp (by omega)])
            refine lv_if_ne (tgt := 55) (pc := 48) hx hb dX12_fewestOf_48 rfl (fun c14 => ?_) (fun c14 => ?_)
            · have h_lz := c14
              refine lv_iconst (v := 0) (pc := 55) hx hb dX12_fewestOf_55 (by decide) ?_
              obtain ⟨f15, ef15⟩ : ∃ fz : Nat → Int32, upd lw (nI i).toNatClampNeg (vp_nar .boolean 0) = fz := ⟨_, rfl⟩
              refine r_zast (ws' := [(h0, .inr (12, [.int i0, .ref b1, .int i2, .int i3, .int i4, .int i5, .ref b6, .ref b7, .ref b8, .ref b9, .ref b10, .ref b11, .ref b12, .ref b13, .ref b14, .ref b15, .ref b16, .ref b17, .int i18, .int i19, .int i20, .ref b21, .ref b22, .ref b23, .ref b24, .ref b25, .ref b26, .int i27, .ref b28, .ref b29, .ref b30, .ref b31, .ref b32, .ref b33, .ref b34, .ref b35, .ref b36, .int i37, .int i38, .int i39, .int i40, .int i41, .int i42, .int i43, .int i44, .int i45, .ref b46, .ref b47, .ref b48, .ref b49, .ref b50, .ref b51, .ref b52, .ref b53, .ref b54, .ref b55, .ref b56, .ref b57, .ref b58, .ref b59, .ref b60, .ref b61, .ref b62, .ref b63])), (b6, .inl (g.2.1 1, 11, .inl P)), (b7, .inl (g.2.1 1, 11, .inl Lc)), (b12, .inl (g.2.1 1, 132, .inl La)), (b13, .inl (g.2.1 1, 132, .inl Lb)), (b17, .inl (g.2.1 3, 132, .inl Lo)), (b48, .inl (g.2.1 3, 12, .inl f15)), (b46, .inl (g.2.1 1, 112, .inl G0)), (b47, .inl (g.2.1 1, 16, .inl gr0))]) X hW 6 rfl (vp_in_nI (by omega) (by decide)) ef15 rfl dX12_fewestOf_56 (fun H locs hW => ?_)
              refine lv_iconst (v := 0) (pc := 57) hx hb dX12_fewestOf_57 (by decide) ?_
              refine lv_istore_n (lv' := [(3, .int 0), (0, .ref h0), (1, .int (nI v)), (2, .int (nI i))]) (pc := 58) hx hb dX12_fewestOf_58 rfl hl (by decide) rfl (fun ls hl => ?_)
              have hg9 : ∀ x : Nat, ¬ x = i → f15 x = lw x := fun x hx => by rw [← ef15, nI_clamp (by omega)]; simp only [upd, hx, if_false]
              have hg8 : f15 i = 0 := by rw [← ef15, nI_clamp (by omega)]; simp only [upd, if_true]; exact vn0
              have hW : WD g A s _ _ [(h0, .inr (12, [.int i0, .ref b1, .int i2, .int i3, .int i4, .int i5, .ref b6, .ref b7, .ref b8, .ref b9, .ref b10, .ref b11, .ref b12, .ref b13, .ref b14, .ref b15, .ref b16, .ref b17, .int i18, .int i19, .int i20, .ref b21, .ref b22, .ref b23, .ref b24, .ref b25, .ref b26, .int i27, .ref b28, .ref b29, .ref b30, .ref b31, .ref b32, .ref b33, .ref b34, .ref b35, .ref b36, .int i37, .int i38, .int i39, .int i40, .int i41, .int i42, .int i43, .int i44, .int i45, .ref b46, .ref b47, .ref b48, .ref b49, .ref b50, .ref b51, .ref b52, .ref b53, .ref b54, .ref b55, .ref b56, .ref b57, .ref b58, .ref b59, .ref b60, .ref b61, .ref b62, .ref b63])), (b6, .inl (g.2.1 1, 11, .inl P)), (b7, .inl (g.2.1 1, 11, .inl Lc)), (b12, .inl (g.2.1 1, 132, .inl La)), (b13, .inl (g.2.1 1, 132, .inl Lb)), (b17, .inl (g.2.1 3, 132, .inl Lo)), (b48, .inl (g.2.1 3, 12, .inl f15)), (b46, .inl (g.2.1 1, 112, .inl G0)), (b47, .inl (g.2.1 1, 16, .inl gr0))] := hW.pick [0, 1, 2, 3, 4, 5, 6, 7, 8] rfl rfl
              have loop2 : ∀ (fv : Nat) (o : Nat) (lw2 : Nat → Int32), (i < fv + o) → (o ≤ i) → (lb01 lw2) → (∀ x : Nat, x < i → lw2 x = lw x) → (¬ lw2 i = 0 → Lo (12 * v + i) = 0) → (Lo (12 * v + i) = 0 → ¬ lw2 i = 0 ∨ ∃ y : Nat, y < i ∧ ¬ lw y = 0 ∧ sameE La Lb v y i) → ∀ (H : Heap) (locs : List Loc) (ls : Array Slot), WD g A s H locs [(h0, .inr (12, [.int i0, .ref b1, .int i2, .int i3, .int i4, .int i5, .ref b6, .ref b7, .ref b8, .ref b9, .ref b10, .ref b11, .ref b12, .ref b13, .ref b14, .ref b15, .ref b16, .ref b17, .int i18, .int i19, .int i20, .ref b21, .ref b22, .ref b23, .ref b24, .ref b25, .ref b26, .int i27, .ref b28, .ref b29, .ref b30, .ref b31, .ref b32, .ref b33, .ref b34, .ref b35, .ref b36, .int i37, .int i38, .int i39, .int i40, .int i41, .int i42, .int i43, .int i44, .int i45, .ref b46, .ref b47, .ref b48, .ref b49, .ref b50, .ref b51, .ref b52, .ref b53, .ref b54, .ref b55, .ref b56, .ref b57, .ref b58, .ref b59, .ref b60, .ref b61, .ref b62, .ref b63])), (b6, .inl (g.2.1 1, 11, .inl P)), (b7, .inl (g.2.1 1, 11, .inl Lc)), (b12, .inl (g.2.1 1, 132, .inl La)), (b13, .inl (g.2.1 1, 132, .inl Lb)), (b17, .inl (g.2.1 3, 132, .inl Lo)), (b48, .inl (g.2.1 3, 12, .inl lw2)), (b46, .inl (g.2.1 1, 112, .inl G0)), (b47, .inl (g.2.1 1, 16, .inl gr0))] → lv_has ls 4 [(0, .ref h0), (1, .int (nI v)), (2, .int (nI i)), (3, .int (nI o))] → W p l e (RM 10 0 0) s m args below meth c H locs 0 0 Q (F0 m 59 ls []) := by
                intro fv
                induction fv with
                | zero =>
                  intro o lw2 hm2 ho hb2 hx2 hJ2 hK2
                  exact absurd hm2 (by omega)
                | succ fv ih2 =>
                  intro o lw2 hm2 ho hb2 hx2 hJ2 hK2 H locs ls hW hl
                  refine lv_iload_n (pc := 59) hx hb dX12_fewestOf_59 rfl (lv_at hl 3 rfl) ?_
                  refine lv_iload_n (pc := 60) hx hb dX12_fewestOf_60 rfl (lv_at hl 2 rfl) ?_
                  refine lv_icmp_ge (tgt := 121) (pc := 61) hx hb dX12_fewestOf_61 rfl (fun c16 => ?_) (fun c16 => ?_)
                  · refine lv_iinc (v := nI (i + 1)) (lv' := [(2, .int (nI (i + 1))), (0, .ref h0), (1, .int (nI v)), (3, .int (nI o))]) (pc := 121) hx hb dX12_fewestOf_121 hl (k := 2) rfl ((nI_succ i).symm) (by decide) rfl (fun ls hl => ?_)
                    refine lv_goto (tgt := 22) (pc := 124) hx hb dX12_fewestOf_124 rfl ?_
                    have hW : WD g A s _ _ [(h0, .inr (12, [.int i0, .ref b1, .int i2, .int i3, .int i4, .int i5, .ref b6, .ref b7, .ref b8, .ref b9, .ref b10, .ref b11, .ref b12, .ref b13, .ref b14, .ref b15, .ref b16, .ref b17, .int i18, .int i19, .int i20, .ref b21, .ref b22, .ref b23, .ref b24, .ref b25, .ref b26, .int i27, .ref b28, .ref b29, .ref b30, .ref b31, .ref b32, .ref b33, .ref b34, .ref b35, .ref b36, .int i37, .int i38, .int i39, .int i40, .int i41, .int i42, .int i43, .int i44, .int i45, .ref b46, .ref b47, .ref b48, .ref b49, .ref b50, .ref b51, .ref b52, .ref b53, .ref b54, .ref b55, .ref b56, .ref b57, .ref b58, .ref b59, .ref b60, .ref b61, .ref b62, .ref b63])), (b6, .inl (g.2.1 1, 11, .inl P)), (b7, .inl (g.2.1 1, 11, .inl Lc)), (b12, .inl (g.2.1 1, 132, .inl La)), (b13, .inl (g.2.1 1, 132, .inl Lb)), (b17, .inl (g.2.1 3, 132, .inl Lo)), (b48, .inl (g.2.1 3, 12, .inl lw2)), (b46, .inl (g.2.1 1, 112, .inl G0)), (b47, .inl (g.2.1 1, 16, .inl gr0))] := hW.pick [0, 1, 2, 3, 4, 5, 6, 7, 8] rfl rfl
                    exact ih1 (i + 1) lw2 (by omega) (by omega) hb2 (LWI_s hLW hx2 hJ2 hK2) _ _ _ hW (lv_sub hl [1, 2, 0] rfl)
                  · have hol : o < i := ge_f (by omega) (by omega) c16
                    refine lv_aload_n (pc := 64) hx hb dX12_fewestOf_64 rfl (lv_at hl 0 rfl) ?_
                    refine r_get X hW 0 ciX12 48 rfl (by decide) m_1275 rfl rfl dX12_fewestOf_65 ?_
                    refine lv_iload_n (pc := 68) hx hb dX12_fewestOf_68 rfl (lv_at hl 3 rfl) ?_
                    refine r_zald X hW 6 rfl (vp_in_nI (by omega) (by decide)) dX12_fewestOf_69 ?_
                    refine lv_topi (fun uv17 euv17 => ?_)
                    obtain rfl : uv17 = lw2 o := euv17.trans (by rw [nI_clamp (by omega)])
                    refine lv_if_eq (tgt := 115) (pc := 70) hx hb dX12_fewestOf_70 rfl (fun c18 => ?_) (fun c18 => ?_)
                    · refine lv_iinc (v := nI (o + 1)) (lv' := [(3, .int (nI (o + 1))), (0, .ref h0), (1, .int (nI v)), (2, .int (nI i))]) (pc := 115) hx hb dX12_fewestOf_115 hl (k := 3) rfl ((nI_succ o).symm) (by decide) rfl (fun ls hl => ?_)
                      refine lv_goto (tgt := 59) (pc := 118) hx hb dX12_fewestOf_118 rfl ?_
                      have hW : WD g A s _ _ [(h0, .inr (12, [.int i0, .ref b1, .int i2, .int i3, .int i4, .int i5, .ref b6, .ref b7, .ref b8, .ref b9, .ref b10, .ref b11, .ref b12, .ref b13, .ref b14, .ref b15, .ref b16, .ref b17, .int i18, .int i19, .int i20, .ref b21, .ref b22, .ref b23, .ref b24, .ref b25, .ref b26, .int i27, .ref b28, .ref b29, .ref b30, .ref b31, .ref b32, .ref b33, .ref b34, .ref b35, .ref b36, .int i37, .int i38, .int i39, .int i40, .int i41, .int i42, .int i43, .int i44, .int i45, .ref b46, .ref b47, .ref b48, .ref b49, .ref b50, .ref b51, .ref b52, .ref b53, .ref b54, .ref b55, .ref b56, .ref b57, .ref b58, .ref b59, .ref b60, .ref b61, .ref b62, .ref b63])), (b6, .inl (g.2.1 1, 11, .inl P)), (b7, .inl (g.2.1 1, 11, .inl Lc)), (b12, .inl (g.2.1 1, 132, .inl La)), (b13, .inl (g.2.1 1, 132, .inl Lb)), (b17, .inl (g.2.1 3, 132, .inl Lo)), (b48, .inl (g.2.1 3, 12, .inl lw2)), (b46, .inl (g.2.1 1, 112, .inl G0)), (b47, .inl (g.2.1 1, 16, .inl gr0))] := hW.pick [0, 1, 2, 3, 4, 5, 6, 7, 8] rfl rfl
                      exact ih2 (o + 1) lw2 (by omega) (by omega) hb2 hx2 hJ2 hK2 _ _ _ hW (lv_sub hl [1, 2, 3, 0] rfl)
                    · have h_lo := c18
                      refine lv_aload_n (pc := 73) hx hb dX12_fewestOf_73 rfl (lv_at hl 0 rfl) ?_
                      refine lv_bipush (v := 12) (pc := 74) hx hb dX12_fewestOf_74 (by decide) ?_
                      refine lv_iload_n (pc := 76) hx hb dX12_fewestOf_76 rfl (lv_at hl 1 rfl) ?_
                      refine lv_imul (pc := 77) hx hb dX12_fewestOf_77 ?_
                      refine lv_topi (fun uv19 euv19 => ?_)
                      obtain rfl : uv19 = nI (12 * v) := euv19.trans (pk_mul _ _)
                      refine lv_iload_n (pc := 78) hx hb dX12_fewestOf_78 rfl (lv_at hl 3 rfl) ?_
                      refine lv_iadd (pc := 79) hx hb dX12_fewestOf_79 ?_
                      refine lv_topi (fun uv20 euv20 => ?_)
                      obtain rfl : uv20 = nI (12 * v + o) := euv20.trans (nI_add _ _)
                      refine lv_aload_n (pc := 80) hx hb dX12_fewestOf_80 rfl (lv_at hl 0 rfl) ?_
                      refine r_get X hW 0 ciX12 12 rfl (by decide) m_1243 rfl rfl dX12_fewestOf_81 ?_
                      refine lv_bipush (v := 12) (pc := 84) hx hb dX12_fewestOf_84 (by decide) ?_
                      refine lv_iload_n (pc := 86) hx hb dX12_fewestOf_86 rfl (lv_at hl 1 rfl) ?_
                      refine lv_imul (pc := 87) hx hb dX12_fewestOf_87 ?_
                      refine lv_topi (fun uv21 euv21 => ?_)
                      obtain rfl : uv21 = nI (12 * v) := euv21.trans (pk_mul _ _)
                      refine lv_iload_n (pc := 88) hx hb dX12_fewestOf_88 rfl (lv_at hl 2 rfl) ?_
                      refine lv_iadd (pc := 89) hx hb dX12_fewestOf_89 ?_
                      refine lv_topi (fun uv22 euv22 => ?_)
                      obtain rfl : uv22 = nI (12 * v + i) := euv22.trans (nI_add _ _)
                      refine r_iald X hW 3 rfl (vp_in_nI (by omega) (by decide)) dX12_fewestOf_90 ?_
                      refine lv_topi (fun uv23 euv23 => ?_)
                      obtain rfl : uv23 = La (12 * v + i) := euv23.trans (by rw [nI_clamp (by omega)])
                      refine lv_aload_n (pc := 91) hx hb dX12_fewestOf_91 rfl (lv_at hl 0 rfl) ?_
                      refine r_get X hW 0 ciX12 13 rfl (by decide) m_1244 rfl rfl dX12_fewestOf_92 ?_
                      refine lv_bipush (v := 12) (pc := 95) hx hb dX12_fewestOf_95 (by decide) ?_
                      refine lv_iload_n (pc := 97) hx hb dX12_fewestOf_97 rfl (lv_at hl 1 rfl) ?_
                      refine lv_imul (pc := 98) hx hb dX12_fewestOf_98 ?_
                      refine lv_topi (fun uv24 euv24 => ?_)
                      obtain rfl : uv24 = nI (12 * v) := euv24.trans (pk_mul _ _)
                      refine lv_iload_n (pc := 99) hx hb dX12_fewestOf_99 rfl (lv_at hl 2 rfl) ?_
                      refine lv_iadd (pc := 100) hx hb dX12_fewestOf_100 ?_
                      refine lv_topi (fun uv25 euv25 => ?_)
                      obtain rfl : uv25 = nI (12 * v + i) := euv25.trans (nI_add _ _)
                      refine r_iald X hW 4 rfl (vp_in_nI (by omega) (by decide)) dX12_fewestOf_101 ?_
                      refine lv_topi (fun uv26 euv26 => ?_)
                      obtain rfl : uv26 = Lb (12 * v + i) := euv26.trans (by rw [nI_clamp (by omega)])
                      refine c_Vi (pc := 102) (As := [.int (nI (12 * v + o)), .int (La (12 * v + i)), .int (Lb (12 * v + i))]) (rest := []) (wr := [(b6, .inl (g.2.1 1, 11, .inl P)), (b7, .inl (g.2.1 1, 11, .inl Lc)), (b48, .inl (g.2.1 3, 12, .inl lw2)), (b46, .inl (g.2.1 1, 112, .inl G0)), (b47, .inl (g.2.1 1, 16, .inl gr0))]) X hW 0 ciX12 rfl (C_X12_joinsG l g h0 b1 b6 b7 b8 b9 b10 b11 b12 b13 b14 b15 b16 b17 b21 b22 b23 b24 b25 b26 b28 b29 b30 b31 b32 b33 b34 b35 b36 b46 b47 b48 b49 b50 b51 b52 b53 b54 b55 b56 b57 b58 b59 b60 b61 b62 b63 i0 i2 i3 i4 i5 i18 i19 i20 i27 i37 i38 i39 i40 i41 i42 i43 i44 i45 La Lb Lo (12 * v + o) (by omega) (La (12 * v + i)) (Lb (12 * v + i))) vX12_231 [0, 3, 4, 5] [1, 2, 6, 7, 8] rfl rfl rfl rfl rfl rfl hl.1 rfl (Nat.le_of_ble_eq_true rfl) ⟨Nat.le_of_ble_eq_true rfl, Nat.le_of_ble_eq_true rfl⟩ ⟨Nat.le_of_ble_eq_true rfl, Nat.le_of_ble_eq_true rfl⟩ dX12_fewestOf_102 (fun r27 u9 H locs hq hW => ?_)
                      obtain ⟨rfl, rfl⟩ := hq
                      have hW : WD g A s _ _ [(b6, .inl (g.2.1 1, 11, .inl P)), (b7, .inl (g.2.1 1, 11, .inl Lc)), (b48, .inl (g.2.1 3, 12, .inl lw2)), (b46, .inl (g.2.1 1, 112, .inl G0)), (b47, .inl (g.2.1 1, 16, .inl gr0)), (h0, .inr (12, [.int i0, .ref b1, .int i2, .int i3, .int i4, .int i5, .ref b6, .ref b7, .ref b8, .ref b9, .ref b10, .ref b11, .ref b12, .ref b13, .ref b14, .ref b15, .ref b16, .ref b17, .int i18, .int i19, .int i20, .ref b21, .ref b22, .ref b23, .ref b24, .ref b25, .ref b26, .int i27, .ref b28, .ref b29, .ref b30, .ref b31, .ref b32, .ref b33, .ref b34, .ref b35, .ref b36, .int i37, .int i38, .int i39, .int i40, .int i41, .int i42, .int i43, .int i44, .int i45, .ref b46, .ref b47, .ref b48, .ref b49, .ref b50, .ref b51, .ref b52, .ref b53, .ref b54, .ref b55, .ref b56, .ref b57, .ref b58, .ref b59, .ref b60, .ref b61, .ref b62, .ref b63])), (b12, .inl (g.2.1 1, 132, .inl La)), (b13, .inl (g.2.1 1, 132, .inl Lb)), (b17, .inl (g.2.1 3, 132, .inl Lo))] := hW
                      refine lv_if_eq (tgt := 115) (pc := 105) hx hb dX12_fewestOf_105 rfl (fun c28 => ?_) (fun c28 => ?_)
                      · refine lv_iinc (v := nI (o + 1)) (lv' := [(3, .int (nI (o + 1))), (0, .ref h0), (1, .int (nI v)), (2, .int (nI i))]) (pc := 115) hx hb dX12_fewestOf_115 hl (k := 3) rfl ((nI_succ o).symm) (by decide) rfl (fun ls hl => ?_)
                        refine lv_goto (tgt := 59) (pc := 118) hx hb dX12_fewestOf_118 rfl ?_
                        have hW : WD g A s _ _ [(h0, .inr (12, [.int i0, .ref b1, .int i2, .int i3, .int i4, .int i5, .ref b6, .ref b7, .ref b8, .ref b9, .ref b10, .ref b11, .ref b12, .ref b13, .ref b14, .ref b15, .ref b16, .ref b17, .int i18, .int i19, .int i20, .ref b21, .ref b22, .ref b23, .ref b24, .ref b25, .ref b26, .int i27, .ref b28, .ref b29, .ref b30, .ref b31, .ref b32, .ref b33, .ref b34, .ref b35, .ref b36, .int i37, .int i38, .int i39, .int i40, .int i41, .int i42, .int i43, .int i44, .int i45, .ref b46, .ref b47, .ref b48, .ref b49, .ref b50, .ref b51, .ref b52, .ref b53, .ref b54, .ref b55, .ref b56, .ref b57, .ref b58, .ref b59, .ref b60, .ref b61, .ref b62, .ref b63])), (b6, .inl (g.2.1 1, 11, .inl P)), (b7, .inl (g.2.1 1, 11, .inl Lc)), (b12, .inl (g.2.1 1, 132, .inl La)), (b13, .inl (g.2.1 1, 132, .inl Lb)), (b17, .inl (g.2.1 3, 132, .inl Lo)), (b48, .inl (g.2.1 3, 12, .inl lw2)), (b46, .inl (g.2.1 1, 112, .inl G0)), (b47, .inl (g.2.1 1, 16, .inl gr0))] := hW.pick [5, 0, 1, 6, 7, 8, 2, 3, 4] rfl rfl
                        exact ih2 (o + 1) lw2 (by omega) (by omega) hb2 hx2 hJ2 hK2 _ _ _ hW (lv_sub hl [1, 2, 3, 0] rfl)
                      · have h_j := c28
                        refine lv_aload_n (pc := 108) hx hb dX12_fewestOf_108 rfl (lv_at hl 0 rfl) ?_
                        refine r_get X hW 5 ciX12 48 rfl (by decide) m_1275 rfl rfl dX12_fewestOf_109 ?_
                        refine lv_iload_n (pc := 112) hx hb dX12_fewestOf_112 rfl (lv_at hl 2 rfl) ?_
                        refine lv_iconst (v := 0) (pc := 113) hx hb dX12_fewestOf_113 (by decide) ?_
                        obtain ⟨f29, ef29⟩ : ∃ fz : Nat → Int32, upd lw2 (nI i).toNatClampNeg (vp_nar .boolean 0) = fz := ⟨_, rfl⟩
                        refine r_zast (ws' := [(b6, .inl (g.2.1 1, 11, .inl P)), (b7, .inl (g.2.1 1, 11, .inl Lc)), (b48, .inl (g.2.1 3, 12, .inl f29)), (b46, .inl (g.2.1 1, 112, .inl G0)), (b47, .inl (g.2.1 1, 16, .inl gr0)), (h0, .inr (12, [.int i0, .ref b1, .int i2, .int i3, .int i4, .int i5, .ref b6, .ref b7, .ref b8, .ref b9, .ref b10, .ref b11, .ref b12, .ref b13, .ref b14, .ref b15, .ref b16, .ref b17, .int i18, .int i19, .int i20, .ref b21, .ref b22, .ref b23, .ref b24, .ref b25, .ref b26, .int i27, .ref b28, .ref b29, .ref b30, .ref b31, .ref b32, .ref b33, .ref b34, .ref b35, .ref b36, .int i37, .int i38, .int i39, .int i40, .int i41, .int i42, .int i43, .int i44, .int i45, .ref b46, .ref b47, .ref b48, .ref b49, .ref b50, .ref b51, .ref b52, .ref b53, .ref b54, .ref b55, .ref b56, .ref b57, .ref b58, .ref b59, .ref b60, .ref b61, .ref b62, .ref b63])), (b12, .inl (g.2.1 1, 132, .inl La)), (b13, .inl (g.2.1 1, 132, .inl Lb)), (b17, .inl (g.2.1 3, 132, .inl Lo))]) X hW 2 rfl (vp_in_nI (by omega) (by decide)) ef29 rfl dX12_fewestOf_114 (fun H locs hW => ?_)
                        refine lv_iinc (v := nI (o + 1)) (lv' := [(3, .int (nI (o + 1))), (0, .ref h0), (1, .int (nI v)), (2, .int (nI i))]) (pc := 115) hx hb dX12_fewestOf_115 hl (k := 3) rfl ((nI_succ o).symm) (by decide) rfl (fun ls hl => ?_)
                        refine lv_goto (tgt := 59) (pc := 118) hx hb dX12_fewestOf_118 rfl ?_
                        have hW : WD g A s _ _ [(h0, .inr (12, [.int i0, .ref b1, .int i2, .int i3, .int i4, .int i5, .ref b6, .ref b7, .ref b8, .ref b9, .ref b10, .ref b11, .ref b12, .ref b13, .ref b14, .ref b15, .ref b16, .ref b17, .int i18, .int i19, .int i20, .ref b21, .ref b22, .ref b23, .ref b24, .ref b25, .ref b26, .int i27, .ref b28, .ref b29, .ref b30, .ref b31, .ref b32, .ref b33, .ref b34, .ref b35, .ref b36, .int i37, .int i38, .int i39, .int i40, .int i41, .int i42, .int i43, .int i44, .int i45, .ref b46, .ref b47, .ref b48, .ref b49, .ref b50, .ref b51, .ref b52, .ref b53, .ref b54, .ref b55, .ref b56, .ref b57, .ref b58, .ref b59, .ref b60, .ref b61, .ref b62, .ref b63])), (b6, .inl (g.2.1 1, 11, .inl P)), (b7, .inl (g.2.1 1, 11, .inl Lc)), (b12, .inl (g.2.1 1, 132, .inl La)), (b13, .inl (g.2.1 1, 132, .inl Lb)), (b17, .inl (g.2.1 3, 132, .inl Lo)), (b48, .inl (g.2.1 3, 12, .inl f29)), (b46, .inl (g.2.1 1, 112, .inl G0)), (b47, .inl (g.2.1 1, 16, .inl gr0))] := hW.pick [5, 0, 1, 6, 7, 8, 2, 3, 4] rfl rfl
                        have hf9 : ∀ x : Nat, ¬ x = i → f29 x = lw2 x := fun x hx => by rw [← ef29, nI_clamp (by omega)]; simp only [upd, hx, if_false]
                        have hf8 : f29 i = 0 := by rw [← ef29, nI_clamp (by omega)]; simp only [upd, if_true]; exact vn0
                        exact ih2 (o + 1) f29 (by omega) (by omega) (fun j hj => by
                            by_cases e9 : j = i
                            · rw [e9]; exact Or.inl hf8
                            · rw [hf9 j e9]; exact hb2 j hj) (fun x hx => (hf9 x (by omega)).trans (hx2 x hx)) (fun q => absurd hf8 q) (fun _ => Or.inr ⟨o, hol, by rw [← hx2 o hol]; exact h_lo, (jnv_1 h_j).imp id (fun q => q.2)⟩) _ _ _ hW (lv_sub hl [1, 2, 3, 0] rfl)
              exact loop2 (i + 1) 0 f15 (by omega) (Nat.zero_le _) (fun j hj => by
                by_cases e9 : j = i
                · rw [e9]; exact Or.inl hg8
                · rw [hg9 j e9]; exact hb1 j hj) (fun x hx => hg9 x (by omega)) (fun q => absurd hg8 q) (fun q => absurd q h_lz) _ _ _ hW (lv_sub hl [1, 2, 3, 0] rfl)
            · have h_lz := c14
              refine lv_iconst (v := 1) (pc := 51) hx hb dX12_fewestOf_51 (by decide) ?_
              refine lv_goto (tgt := 56) (pc := 52) hx hb dX12_fewestOf_52 rfl ?_
              obtain ⟨f30, ef30⟩ : ∃ fz : Nat → Int32, upd lw (nI i).toNatClampNeg (vp_nar .boolean 1) = fz := ⟨_, rfl⟩
              refine r_zast (ws' := [(h0, .inr (12, [.int i0, .ref b1, .int i2, .int i3, .int i4, .int i5, .ref b6, .ref b7, .ref b8, .ref b9, .ref b10, .ref b11, .ref b12, .ref b13, .ref b14, .ref b15, .ref b16, .ref b17, .int i18, .int i19, .int i20, .ref b21, .ref b22, .ref b23, .ref b24, .ref b25, .ref b26, .int i27, .ref b28, .ref b29, .ref b30, .ref b31, .ref b32, .ref b33, .ref b34, .ref b35, .ref b36, .int i37, .int i38, .int i39, .int i40, .int i41, .int i42, .int i43, .int i44, .int i45, .ref b46, .ref b47, .ref b48, .ref b49, .ref b50, .ref b51, .ref b52, .ref b53, .ref b54, .ref b55, .ref b56, .ref b57, .ref b58, .ref b59, .ref b60, .ref b61, .ref b62, .ref b63])), (b6, .inl (g.2.1 1, 11, .inl P)), (b7, .inl (g.2.1 1, 11, .inl Lc)), (b12, .inl (g.2.1 1, 132, .inl La)), (b13, .inl (g.2.1 1, 132, .inl Lb)), (b17, .inl (g.2.1 3, 132, .inl Lo)), (b48, .inl (g.2.1 3, 12, .inl f30)), (b46, .inl (g.2.1 1, 112, .inl G0)), (b47, .inl (g.2.1 1, 16, .inl gr0))]) X hW 6 rfl (vp_in_nI (by omega) (by decide)) ef30 rfl dX12_fewestOf_56 (fun H locs hW => ?_)
              refine lv_iconst (v := 0) (pc := 57) hx hb dX12_fewestOf_57 (by decide) ?_
              refine lv_istore_n (lv' := [(3, .int 0), (0, .ref h0), (1, .int (nI v)), (2, .int (nI i))]) (pc := 58) hx hb dX12_fewestOf_58 rfl hl (by decide) rfl (fun ls hl => ?_)
              have hg9 : ∀ x : Nat, ¬ x = i → f30 x = lw x := fun x hx => by rw [← ef30, nI_clamp (by omega)]; simp only [upd, hx, if_false]
              have hg8 : f30 i = 1 := by rw [← ef30, nI_clamp (by omega)]; simp only [upd, if_true]; exact vn1
              have hW : WD g A s _ _ [(h0, .inr (12, [.int i0, .ref b1, .int i2, .int i3, .int i4, .int i5, .ref b6, .ref b7, .ref b8, .ref b9, .ref b10, .ref b11, .ref b12, .ref b13, .ref b14, .ref b15, .ref b16, .ref b17, .int i18, .int i19, .int i20, .ref b21, .ref b22, .ref b23, .ref b24, .ref b25, .ref b26, .int i27, .ref b28, .ref b29, .ref b30, .ref b31, .ref b32, .ref b33, .ref b34, .ref b35, .ref b36, .int i37, .int i38, .int i39, .int i40, .int i41, .int i42, .int i43, .int i44, .int i45, .ref b46, .ref b47, .ref b48, .ref b49, .ref b50, .ref b51, .ref b52, .ref b53, .ref b54, .ref b55, .ref b56, .ref b57, .ref b58, .ref b59, .ref b60, .ref b61, .ref b62, .ref b63])), (b6, .inl (g.2.1 1, 11, .inl P)), (b7, .inl (g.2.1 1, 11, .inl Lc)), (b12, .inl (g.2.1 1, 132, .inl La)), (b13, .inl (g.2.1 1, 132, .inl Lb)), (b17, .inl (g.2.1 3, 132, .inl Lo)), (b48, .inl (g.2.1 3, 12, .inl f30)), (b46, .inl (g.2.1 1, 112, .inl G0)), (b47, .inl (g.2.1 1, 16, .inl gr0))] := hW.pick [0, 1, 2, 3, 4, 5, 6, 7, 8] rfl rfl
              have loop2 : ∀ (fv : Nat) (o : Nat) (lw2 : Nat → Int32), (i < fv + o) → (o ≤ i) → (lb01 lw2) → (∀ x : Nat, x < i → lw2 x = lw x) → (¬ lw2 i = 0 → Lo (12 * v + i) = 0) → (Lo (12 * v + i) = 0 → ¬ lw2 i = 0 ∨ ∃ y : Nat, y < i ∧ ¬ lw y = 0 ∧ sameE La Lb v y i) → ∀ (H : Heap) (locs : List Loc) (ls : Array Slot), WD g A s H locs [(h0, .inr (12, [.int i0, .ref b1, .int i2, .int i3, .int i4, .int i5, .ref b6, .ref b7, .ref b8, .ref b9, .ref b10, .ref b11, .ref b12, .ref b13, .ref b14, .ref b15, .ref b16, .ref b17, .int i18, .int i19, .int i20, .ref b21, .ref b22, .ref b23, .ref b24, .ref b25, .ref b26, .int i27, .ref b28, .ref b29, .ref b30, .ref b31, .ref b32, .ref b33, .ref b34, .ref b35, .ref b36, .int i37, .int i38, .int i39, .int i40, .int i41, .int i42, .int i43, .int i44, .int i45, .ref b46, .ref b47, .ref b48, .ref b49, .ref b50, .ref b51, .ref b52, .ref b53, .ref b54, .ref b55, .ref b56, .ref b57, .ref b58, .ref b59, .ref b60, .ref b61, .ref b62, .ref b63])), (b6, .inl (g.2.1 1, 11, .inl P)), (b7, .inl (g.2.1 1, 11, .inl Lc)), (b12, .inl (g.2.1 1, 132, .inl La)), (b13, .inl (g.2.1 1, 132, .inl Lb)), (b17, .inl (g.2.1 3, 132, .inl Lo)), (b48, .inl (g.2.1 3, 12, .inl lw2)), (b46, .inl (g.2.1 1, 112, .inl G0)), (b47, .inl (g.2.1 1, 16, .inl gr0))] → lv_has ls 4 [(0, .ref h0), (1, .int (nI v)), (2, .int (nI i)), (3, .int (nI o))] → W p l e (RM 10 0 0) s m args below meth c H locs 0 0 Q (F0 m 59 ls []) := by
                intro fv
                induction fv with
                | zero =>
                  intro o lw2 hm2 ho hb2 hx2 hJ2 hK2
                  exact absurd hm2 (by omega)
                | succ fv ih2 =>
                  intro o lw2 hm2 ho hb2 hx2 hJ2 hK2 H locs ls hW hl
                  refine lv_iload_n (pc := 59) hx hb dX12_fewestOf_59 rfl (lv_at hl 3 rfl) ?_
                  refine lv_iload_n (pc := 60) hx hb dX12_fewestOf_60 rfl (lv_at hl 2 rfl) ?_
                  refine lv_icmp_ge (tgt := 121) (pc := 61) hx hb dX12_fewestOf_61 rfl (fun c31 => ?_) (fun c31 => ?_)
                  · refine lv_iinc (v := nI (i + 1)) (lv' := [(2, .int (nI (i + 1))), (0, .ref h0), (1, .int (nI v)), (3, .int (nI o))]) (pc := 121) hx hb dX12_fewestOf_121 hl (k := 2) rfl ((nI_succ i).symm) (by decide) rfl (fun ls hl => ?_)
                    refine lv_goto (tgt := 22) (pc := 124) hx hb dX12_fewestOf_124 rfl ?_
                    have hW : WD g A s _ _ [(h0, .inr (12, [.int i0, .ref b1, .int i2, .int i3, .int i4, .int i5, .ref b6, .ref b7, .ref b8, .ref b9, .ref b10, .ref b11, .ref b12, .ref b13, .ref b14, .ref b15, .ref b16, .ref b17, .int i18, .int i19, .int i20, .ref b21, .ref b22, .ref b23, .ref b24, .ref b25, .ref b26, .int i27, .ref b28, .ref b29, .ref b30, .ref b31, .ref b32, .ref b33, .ref b34, .ref b35, .ref b36, .int i37, .int i38, .int i39, .int i40, .int i41, .int i42, .int i43, .int i44, .int i45, .ref b46, .ref b47, .ref b48, .ref b49, .ref b50, .ref b51, .ref b52, .ref b53, .ref b54, .ref b55, .ref b56, .ref b57, .ref b58, .ref b59, .ref b60, .ref b61, .ref b62, .ref b63])), (b6, .inl (g.2.1 1, 11, .inl P)), (b7, .inl (g.2.1 1, 11, .inl Lc)), (b12, .inl (g.2.1 1, 132, .inl La)), (b13, .inl (g.2.1 1, 132, .inl Lb)), (b17, .inl (g.2.1 3, 132, .inl Lo)), (b48, .inl (g.2.1 3, 12, .inl lw2)), (b46, .inl (g.2.1 1, 112, .inl G0)), (b47, .inl (g.2.1 1, 16, .inl gr0))] := hW.pick [0, 1, 2, 3, 4, 5, 6, 7, 8] rfl rfl
                    exact ih1 (i + 1) lw2 (by omega) (by omega) hb2 (LWI_s hLW hx2 hJ2 hK2) _ _ _ hW (lv_sub hl [1, 2, 0] rfl)
                  · have hol : o < i := ge_f (by omega) (by omega) c31
                    refine lv_aload_n (pc := 64) hx hb dX12_fewestOf_64 rfl (lv_at hl 0 rfl) ?_
                    refine r_get X hW 0 ciX12 48 rfl (by decide) m_1275 rfl rfl dX12_fewestOf_65 ?_
                    refine lv_iload_n (pc := 68) hx hb dX12_fewestOf_68 rfl (lv_at hl 3 rfl) ?_
                    refine r_zald X hW 6 rfl (vp_in_nI (by omega) (by decide)) dX12_fewestOf_69 ?_
                    refine lv_topi (fun uv32 euv32 => ?_)
                    obtain rfl : uv32 = lw2 o := euv32.trans (by rw [nI_clamp (by omega)])
                    refine lv_if_eq (tgt := 115) (pc := 70) hx hb dX12_fewestOf_70 rfl (fun c33 => ?_) (fun c33 => ?_)
                    · refine lv_iinc (v := nI (o + 1)) (lv' := [(3, .int (nI (o + 1))), (0, .ref h0), (1, .int (nI v)), (2, .int (nI i))]) (pc := 115) hx hb dX12_fewestOf_115 hl (k := 3) rfl ((nI_succ o).symm) (by decide) rfl (fun ls hl => ?_)
                      refine lv_goto (tgt := 59) (pc := 118) hx hb dX12_fewestOf_118 rfl ?_
                      have hW : WD g A s _ _ [(h0, .inr (12, [.int i0, .ref b1, .int i2, .int i3, .int i4, .int i5, .ref b6, .ref b7, .ref b8, .ref b9, .ref b10, .ref b11, .ref b12, .ref b13, .ref b14, .ref b15, .ref b16, .ref b17, .int i18, .int i19, .int i20, .ref b21, .ref b22, .ref b23, .ref b24, .ref b25, .ref b26, .int i27, .ref b28, .ref b29, .ref b30, .ref b31, .ref b32, .ref b33, .ref b34, .ref b35, .ref b36, .int i37, .int i38, .int i39, .int i40, .int i41, .int i42, .int i43, .int i44, .int i45, .ref b46, .ref b47, .ref b48, .ref b49, .ref b50, .ref b51, .ref b52, .ref b53, .ref b54, .ref b55, .ref b56, .ref b57, .ref b58, .ref b59, .ref b60, .ref b61, .ref b62, .ref b63])), (b6, .inl (g.2.1 1, 11, .inl P)), (b7, .inl (g.2.1 1, 11, .inl Lc)), (b12, .inl (g.2.1 1, 132, .inl La)), (b13, .inl (g.2.1 1, 132, .inl Lb)), (b17, .inl (g.2.1 3, 132, .inl Lo)), (b48, .inl (g.2.1 3, 12, .inl lw2)), (b46, .inl (g.2.1 1, 112, .inl G0)), (b47, .inl (g.2.1 1, 16, .inl gr0))] := hW.pick [0, 1, 2, 3, 4, 5, 6, 7, 8] rfl rfl
                      exact ih2 (o + 1) lw2 (by omega) (by omega) hb2 hx2 hJ2 hK2 _ _ _ hW (lv_sub hl [1, 2, 3, 0] rfl)
                    · have h_lo := c33
                      refine lv_aload_n (pc := 73) hx hb dX12_fewestOf_73 rfl (lv_at hl 0 rfl) ?_
                      refine lv_bipush (v := 12) (pc := 74) hx hb dX12_fewestOf_74 (by decide) ?_
                      refine lv_iload_n (pc := 76) hx hb dX12_fewestOf_76 rfl (lv_at hl 1 rfl) ?_
                      refine lv_imul (pc := 77) hx hb dX12_fewestOf_77 ?_
                      refine lv_topi (fun uv34 euv34 => ?_)
                      obtain rfl : uv34 = nI (12 * v) := euv34.trans (pk_mul _ _)
                      refine lv_iload_n (pc := 78) hx hb dX12_fewestOf_78 rfl (lv_at hl 3 rfl) ?_
                      refine lv_iadd (pc := 79) hx hb dX12_fewestOf_79 ?_
                      refine lv_topi (fun uv35 euv35 => ?_)
                      obtain rfl : uv35 = nI (12 * v + o) := euv35.trans (nI_add _ _)
                      refine lv_aload_n (pc := 80) hx hb dX12_fewestOf_80 rfl (lv_at hl 0 rfl) ?_
                      refine r_get X hW 0 ciX12 12 rfl (by decide) m_1243 rfl rfl dX12_fewestOf_81 ?_
                      refine lv_bipush (v := 12) (pc := 84) hx hb dX12_fewestOf_84 (by decide) ?_
                      refine lv_iload_n (pc := 86) hx hb dX12_fewestOf_86 rfl (lv_at hl 1 rfl) ?_
                      refine lv_imul (pc := 87) hx hb dX12_fewestOf_87 ?_
                      refine lv_topi (fun uv36 euv36 => ?_)
                      obtain rfl : uv36 = nI (12 * v) := euv36.trans (pk_mul _ _)
                      refine lv_iload_n (pc := 88) hx hb dX12_fewestOf_88 rfl (lv_at hl 2 rfl) ?_
                      refine lv_iadd (pc := 89) hx hb dX12_fewestOf_89 ?_
                      refine lv_topi (fun uv37 euv37 => ?_)
                      obtain rfl : uv37 = nI (12 * v + i) := euv37.trans (nI_add _ _)
                      refine r_iald X hW 3 rfl (vp_in_nI (by omega) (by decide)) dX12_fewestOf_90 ?_
                      refine lv_topi (fun uv38 euv38 => ?_)
                      obtain rfl : uv38 = La (12 * v + i) := euv38.trans (by rw [nI_clamp (by omega)])
                      refine lv_aload_n (pc := 91) hx hb dX12_fewestOf_91 rfl (lv_at hl 0 rfl) ?_
                      refine r_get X hW 0 ciX12 13 rfl (by decide) m_1244 rfl rfl dX12_fewestOf_92 ?_
                      refine lv_bipush (v := 12) (pc := 95) hx hb dX12_fewestOf_95 (by decide) ?_
                      refine lv_iload_n (pc := 97) hx hb dX12_fewestOf_97 rfl (lv_at hl 1 rfl) ?_
                      refine lv_imul (pc := 98) hx hb dX12_fewestOf_98 ?_
                      refine lv_topi (fun uv39 euv39 => ?_)
                      obtain rfl : uv39 = nI (12 * v) := euv39.trans (pk_mul _ _)
                      refine lv_iload_n (pc := 99) hx hb dX12_fewestOf_99 rfl (lv_at hl 2 rfl) ?_
                      refine lv_iadd (pc := 100) hx hb dX12_fewestOf_100 ?_
                      refine lv_topi (fun uv40 euv40 => ?_)
                      obtain rfl : uv40 = nI (12 * v + i) := euv40.trans (nI_add _ _)
                      refine r_iald X hW 4 rfl (vp_in_nI (by omega) (by decide)) dX12_fewestOf_101 ?_
                      refine lv_topi (fun uv41 euv41 => ?_)
                      obtain rfl : uv41 = Lb (12 * v + i) := euv41.trans (by rw [nI_clamp (by omega)])
                      refine c_Vi (pc := 102) (As := [.int (nI (12 * v + o)), .int (La (12 * v + i)), .int (Lb (12 * v + i))]) (rest := []) (wr := [(b6, .inl (g.2.1 1, 11, .inl P)), (b7, .inl (g.2.1 1, 11, .inl Lc)), (b48, .inl (g.2.1 3, 12, .inl lw2)), (b46, .inl (g.2.1 1, 112, .inl G0)), (b47, .inl (g.2.1 1, 16, .inl gr0))]) X hW 0 ciX12 rfl (C_X12_joinsG l g h0 b1 b6 b7 b8 b9 b10 b11 b12 b13 b14 b15 b16 b17 b21 b22 b23 b24 b25 b26 b28 b29 b30 b31 b32 b33 b34 b35 b36 b46 b47 b48 b49 b50 b51 b52 b53 b54 b55 b56 b57 b58 b59 b60 b61 b62 b63 i0 i2 i3 i4 i5 i18 i19 i20 i27 i37 i38 i39 i40 i41 i42 i43 i44 i45 La Lb Lo (12 * v + o) (by omega) (La (12 * v + i)) (Lb (12 * v + i))) vX12_231 [0, 3, 4, 5] [1, 2, 6, 7, 8] rfl rfl rfl rfl rfl rfl hl.1 rfl (Nat.le_of_ble_eq_true rfl) ⟨Nat.le_of_ble_eq_true rfl, Nat.le_of_ble_eq_true rfl⟩ ⟨Nat.le_of_ble_eq_true rfl, Nat.le_of_ble_eq_true rfl⟩ dX12_fewestOf_102 (fun r42 u9 H locs hq hW => ?_)
                      obtain ⟨rfl, rfl⟩ := hq
                      have hW : WD g A s _ _ [(b6, .inl (g.2.1 1, 11, .inl P)), (b7, .inl (g.2.1 1, 11, .inl Lc)), (b48, .inl (g.2.1 3, 12, .inl lw2)), (b46, .inl (g.2.1 1, 112, .inl G0)), (b47, .inl (g.2.1 1, 16, .inl gr0)), (h0, .inr (12, [.int i0, .ref b1, .int i2, .int i3, .int i4, .int i5, .ref b6, .ref b7, .ref b8, .ref b9, .ref b10, .ref b11, .ref b12, .ref b13, .ref b14, .ref b15, .ref b16, .ref b17, .int i18, .int i19, .int i20, .ref b21, .ref b22, .ref b23, .ref b24, .ref b25, .ref b26, .int i27, .ref b28, .ref b29, .ref b30, .ref b31, .ref b32, .ref b33, .ref b34, .ref b35, .ref b36, .int i37, .int i38, .int i39, .int i40, .int i41, .int i42, .int i43, .int i44, .int i45, .ref b46, .ref b47, .ref b48, .ref b49, .ref b50, .ref b51, .ref b52, .ref b53, .ref b54, .ref b55, .ref b56, .ref b57, .ref b58, .ref b59, .ref b60, .ref b61, .ref b62, .ref b63])), (b12, .inl (g.2.1 1, 132, .inl La)), (b13, .inl (g.2.1 1, 132, .inl Lb)), (b17, .inl (g.2.1 3, 132, .inl Lo))] := hW
                      refine lv_if_eq (tgt := 115) (pc := 105) hx hb dX12_fewestOf_105 rfl (fun c43 => ?_) (fun c43 => ?_)
                      · refine lv_iinc (v := nI (o + 1)) (lv' := [(3, .int (nI (o + 1))), (0, .ref h0), (1, .int (nI v)), (2, .int (nI i))]) (pc := 115) hx hb dX12_fewestOf_115 hl (k := 3) rfl ((nI_succ o).symm) (by decide) rfl (fun ls hl => ?_)
                        refine lv_goto (tgt := 59) (pc := 118) hx hb dX12_fewestOf_118 rfl ?_
                        have hW : WD g A s _ _ [(h0, .inr (12, [.int i0, .ref b1, .int i2, .int i3, .int i4, .int i5, .ref b6, .ref b7, .ref b8, .ref b9, .ref b10, .ref b11, .ref b12, .ref b13, .ref b14, .ref b15, .ref b16, .ref b17, .int i18, .int i19, .int i20, .ref b21, .ref b22, .ref b23, .ref b24, .ref b25, .ref b26, .int i27, .ref b28, .ref b29, .ref b30, .ref b31, .ref b32, .ref b33, .ref b34, .ref b35, .ref b36, .int i37, .int i38, .int i39, .int i40, .int i41, .int i42, .int i43, .int i44, .int i45, .ref b46, .ref b47, .ref b48, .ref b49, .ref b50, .ref b51, .ref b52, .ref b53, .ref b54, .ref b55, .ref b56, .ref b57, .ref b58, .ref b59, .ref b60, .ref b61, .ref b62, .ref b63])), (b6, .inl (g.2.1 1, 11, .inl P)), (b7, .inl (g.2.1 1, 11, .inl Lc)), (b12, .inl (g.2.1 1, 132, .inl La)), (b13, .inl (g.2.1 1, 132, .inl Lb)), (b17, .inl (g.2.1 3, 132, .inl Lo)), (b48, .inl (g.2.1 3, 12, .inl lw2)), (b46, .inl (g.2.1 1, 112, .inl G0)), (b47, .inl (g.2.1 1, 16, .inl gr0))] := hW.pick [5, 0, 1, 6, 7, 8, 2, 3, 4] rfl rfl
                        exact ih2 (o + 1) lw2 (by omega) (by omega) hb2 hx2 hJ2 hK2 _ _ _ hW (lv_sub hl [1, 2, 3, 0] rfl)
                      · have h_j := c43
                        refine lv_aload_n (pc := 108) hx hb dX12_fewestOf_108 rfl (lv_at hl 0 rfl) ?_
                        refine r_get X hW 5 ciX12 48 rfl (by decide) m_1275 rfl rfl dX12_fewestOf_109 ?_
                        refine lv_iload_n (pc := 112) hx hb dX12_fewestOf_112 rfl (lv_at hl 2 rfl) ?_
                        refine lv_iconst (v := 0) (pc := 113) hx hb dX12_fewestOf_113 (by decide) ?_
                        obtain ⟨f44, ef44⟩ : ∃ fz : Nat → Int32, upd lw2 (nI i).toNatClampNeg (vp_nar .boolean 0) = fz := ⟨_, rfl⟩
                        refine r_zast (ws' := [(b6, .inl (g.2.1 1, 11, .inl P)), (b7, .inl (g.2.1 1, 11, .inl Lc)), (b48, .inl (g.2.1 3, 12, .inl f44)), (b46, .inl (g.2.1 1, 112, .inl G0)), (b47, .inl (g.2.1 1, 16, .inl gr0)), (h0, .inr (12, [.int i0, .ref b1, .int i2, .int i3, .int i4, .int i5, .ref b6, .ref b7, .ref b8, .ref b9, .ref b10, .ref b11, .ref b12, .ref b13, .ref b14, .ref b15, .ref b16, .ref b17, .int i18, .int i19, .int i20, .ref b21, .ref b22, .ref b23, .ref b24, .ref b25, .ref b26, .int i27, .ref b28, .ref b29, .ref b30, .ref b31, .ref b32, .ref b33, .ref b34, .ref b35, .ref b36, .int i37, .int i38, .int i39, .int i40, .int i41, .int i42, .int i43, .int i44, .int i45, .ref b46, .ref b47, .ref b48, .ref b49, .ref b50, .ref b51, .ref b52, .ref b53, .ref b54, .ref b55, .ref b56, .ref b57, .ref b58, .ref b59, .ref b60, .ref b61, .ref b62, .ref b63])), (b12, .inl (g.2.1 1, 132, .inl La)), (b13, .inl (g.2.1 1, 132, .inl Lb)), (b17, .inl (g.2.1 3, 132, .inl Lo))]) X hW 2 rfl (vp_in_nI (by omega) (by decide)) ef44 rfl dX12_fewestOf_114 (fun H locs hW => ?_)
                        refine lv_iinc (v := nI (o + 1)) (lv' := [(3, .int (nI (o + 1))), (0, .ref h0), (1, .int (nI v)), (2, .int (nI i))]) (pc := 115) hx hb dX12_fewestOf_115 hl (k := 3) rfl ((nI_succ o).symm) (by decide) rfl (fun ls hl => ?_)
                        refine lv_goto (tgt := 59) (pc := 118) hx hb dX12_fewestOf_118 rfl ?_
                        have hW : WD g A s _ _ [(h0, .inr (12, [.int i0, .ref b1, .int i2, .int i3, .int i4, .int i5, .ref b6, .ref b7, .ref b8, .ref b9, .ref b10, .ref b11, .ref b12, .ref b13, .ref b14, .ref b15, .ref b16, .ref b17, .int i18, .int i19, .int i20, .ref b21, .ref b22, .ref b23, .ref b24, .ref b25, .ref b26, .int i27, .ref b28, .ref b29, .ref b30, .ref b31, .ref b32, .ref b33, .ref b34, .ref b35, .ref b36, .int i37, .int i38, .int i39, .int i40, .int i41, .int i42, .int i43, .int i44, .int i45, .ref b46, .ref b47, .ref b48, .ref b49, .ref b50, .ref b51, .ref b52, .ref b53, .ref b54, .ref b55, .ref b56, .ref b57, .ref b58, .ref b59, .ref b60, .ref b61, .ref b62, .ref b63])), (b6, .inl (g.2.1 1, 11, .inl P)), (b7, .inl (g.2.1 1, 11, .inl Lc)), (b12, .inl (g.2.1 1, 132, .inl La)), (b13, .inl (g.2.1 1, 132, .inl Lb)), (b17, .inl (g.2.1 3, 132, .inl Lo)), (b48, .inl (g.2.1 3, 12, .inl f44)), (b46, .inl (g.2.1 1, 112, .inl G0)), (b47, .inl (g.2.1 1, 16, .inl gr0))] := hW.pick [5, 0, 1, 6, 7, 8, 2, 3, 4] rfl rfl
                        have hf9 : ∀ x : Nat, ¬ x = i → f44 x = lw2 x := fun x hx => by rw [← ef44, nI_clamp (by omega)]; simp only [upd, hx, if_false]
                        have hf8 : f44 i = 0 := by rw [← ef44, nI_clamp (by omega)]; simp only [upd, if_true]; exact vn0
                        exact ih2 (o + 1) f44 (by omega) (by omega) (fun j hj => by
                            by_cases e9 : j = i
                            · rw [e9]; exact Or.inl hf8
                            · rw [hf9 j e9]; exact hb2 j hj) (fun x hx => (hf9 x (by omega)).trans (hx2 x hx)) (fun q => absurd hf8 q) (fun _ => Or.inr ⟨o, hol, by rw [← hx2 o hol]; exact h_lo, (jnv_1 h_j).imp id (fun q => q.2)⟩) _ _ _ hW (lv_sub hl [1, 2, 3, 0] rfl)
              exact loop2 (i + 1) 0 f30 (by omega) (Nat.zero_le _) (fun j hj => by
                by_cases e9 : j = i
                · rw [e9]; exact Or.inr hg8
                · rw [hg9 j e9]; exact hb1 j hj) (fun x hx => hg9 x (by omega)) (fun _ => h_lz) (fun _ => Or.inl (by rw [hg8]; decide)) _ _ _ hW (lv_sub hl [1, 2, 3, 0] rfl)
      exact loop1 (lc + 1) 0 lw0 (by omega) (Nat.zero_le _) hlb LWI_0 _ _ _ hW (lv_sub hl [1, 2, 0] rfl)
    · refine lv_iconst (v := (-1)) (pc := 18) hx hb dX12_fewestOf_18 (by decide) ?_
      exact e_i X hQ hr hW (u := [(h0, .inr (12, [.int i0, .ref b1, .int i2, .int i3, .int i4, .int i5, .ref b6, .ref b7, .ref b8, .ref b9, .ref b10, .ref b11, .ref b12, .ref b13, .ref b14, .ref b15, .ref b16, .ref b17, .int i18, .int i19, .int i20, .ref b21, .ref b22, .ref b23, .ref b24, .ref b25, .ref b26, .int i27, .ref b28, .ref b29, .ref b30, .ref b31, .ref b32, .ref b33, .ref b34, .ref b35, .ref b36, .int i37, .int i38, .int i39, .int i40, .int i41, .int i42, .int i43, .int i44, .int i45, .ref b46, .ref b47, .ref b48, .ref b49, .ref b50, .ref b51, .ref b52, .ref b53, .ref b54, .ref b55, .ref b56, .ref b57, .ref b58, .ref b59, .ref b60, .ref b61, .ref b62, .ref b63])), (b6, .inl (g.2.1 1, 11, .inl P)), (b7, .inl (g.2.1 1, 11, .inl Lc)), (b12, .inl (g.2.1 1, 132, .inl La)), (b13, .inl (g.2.1 1, 132, .inl Lb)), (b17, .inl (g.2.1 3, 132, .inl Lo)), (b48, .inl (g.2.1 3, 12, .inl lw0)), (b46, .inl (g.2.1 1, 112, .inl G0)), (b47, .inl (g.2.1 1, 16, .inl gr0))]) [3, 4, 5, 6, 7, 8, 0, 1, 2] rfl rfl (⟨_, _, _, ⟨by decide, by decide⟩, hlb, hg0, rfl⟩) ⟨Nat.le_of_ble_eq_true rfl, Nat.le_of_ble_eq_true rfl⟩ dX12_fewestOf_19

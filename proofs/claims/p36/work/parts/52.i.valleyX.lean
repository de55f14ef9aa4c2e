/-- a small number, as it stands in a row -/
def tN (x : Int32) : Nat := x.toNatClampNeg
theorem tN_nI {k : Nat} (h : k < 2 ^ 31) : tN (nI k) = k := nI_clamp h
theorem tN_of {x : Int32} {k : Nat} (hk : k < 2 ^ 31) (h : x = nI k) : x = nI (tN x) ∧ tN x = k := by
  subst h
  rw [tN_nI hk]
  exact ⟨rfl, rfl⟩
def lnA (L : Nat → Int32) (i : Nat) : Nat := tN (L (i * 6))
def lnB (L : Nat → Int32) (i : Nat) : Nat := tN (L (i * 6 + 1))
theorem ends_at {L : Nat → Int32} {n p i : Nat} (h : endsIn L n p) (hp : p ≤ 7) (hi : i < n) : L (i * 6) = nI (lnA L i) ∧ L (i * 6 + 1) = nI (lnB L i) ∧ lnA L i < p ∧ lnB L i < p := by
  obtain ⟨a, b, h1, h2, h3, h4⟩ := h i hi
  obtain ⟨e1, e2⟩ := tN_of (k := a) (by omega) h3
  obtain ⟨e3, e4⟩ := tN_of (k := b) (by omega) h4
  exact ⟨e1, e3, by show tN _ < p; rw [e2]; exact h1, by show tN _ < p; rw [e4]; exact h2⟩
theorem ends_dn {L : Nat → Int32} {n p i : Nat} {x : Int32} (h : endsIn L n p) : endsIn (upd L (i * 6 + 5) x) n p := fun k hk => by
  obtain ⟨a, b, h1, h2, h3, h4⟩ := h k hk
  exact ⟨a, b, h1, h2, by rw [upd_ne (by omega)]; exact h3, by rw [upd_ne (by omega)]; exact h4⟩
theorem nI_nn {k : Nat} (h : k < 2 ^ 31) : ¬ nI k < 0 := fun q => by
  rw [fa_lt] at q
  rw [nI_toInt h] at q
  have e : (0 : Int32).toInt = 0 := rfl
  omega
theorem nI_ge0 {k : Nat} (h : k < 2 ^ 31) : (0 : Int32) ≤ nI k := Int32.not_lt.mp (nI_nn h)
/-- a number between bounds -/
theorem tN_in {x : Int32} {n : Nat} (hn : n < 2 ^ 31) (h0 : 0 ≤ x) (h1 : x < nI n) : x = nI (tN x) ∧ tN x < n := by
  have a := Int32.le_iff_toInt_le.mp h0
  have b := Int32.lt_iff_toInt_lt.mp h1
  rw [nI_toInt hn] at b
  have e : (0 : Int32).toInt = 0 := rfl
  have hx : x = nI x.toInt.toNat := Int32.toInt_inj.mp (by rw [nI_toInt (by omega)]; omega)
  obtain ⟨q1, q2⟩ := tN_of (k := x.toInt.toNat) (by omega) hx
  exact ⟨q1, by rw [q2]; omega⟩
theorem dX10_newsOfOne_0 : decode cX10_newsOfOne 0 = .ok (.iconst 0, 1) := DX10_newsOfOne _ _ _ rfl
theorem dX10_newsOfOne_1 : decode cX10_newsOfOne 1 = .ok (.istore_n 2, 1) := DX10_newsOfOne _ _ _ rfl
theorem dX10_newsOfOne_2 : decode cX10_newsOfOne 2 = .ok (.iconst 0, 1) := DX10_newsOfOne _ _ _ rfl
theorem dX10_newsOfOne_3 : decode cX10_newsOfOne 3 = .ok (.istore_n 3, 1) := DX10_newsOfOne _ _ _ rfl
theorem dX10_newsOfOne_4 : decode cX10_newsOfOne 4 = .ok (.iload_n 3, 1) := DX10_newsOfOne _ _ _ rfl
theorem dX10_newsOfOne_5 : decode cX10_newsOfOne 5 = .ok (.aload_n 0, 1) := DX10_newsOfOne _ _ _ rfl
theorem dX10_newsOfOne_6 : decode cX10_newsOfOne 6 = .ok (.arraylength, 1) := DX10_newsOfOne _ _ _ rfl
theorem dX10_newsOfOne_7 : decode cX10_newsOfOne 7 = .ok (.if_icmp .ge 25, 3) := DX10_newsOfOne _ _ _ rfl
theorem dX10_newsOfOne_32 : decode cX10_newsOfOne 32 = .ok (.iload_n 2, 1) := DX10_newsOfOne _ _ _ rfl
theorem dX10_newsOfOne_33 : decode cX10_newsOfOne 33 = .ok (.ireturn, 1) := DX10_newsOfOne _ _ _ rfl
theorem dX10_newsOfOne_10 : decode cX10_newsOfOne 10 = .ok (.aload_n 0, 1) := DX10_newsOfOne _ _ _ rfl
theorem dX10_newsOfOne_11 : decode cX10_newsOfOne 11 = .ok (.iload_n 3, 1) := DX10_newsOfOne _ _ _ rfl
theorem dX10_newsOfOne_12 : decode cX10_newsOfOne 12 = .ok (.iaload, 1) := DX10_newsOfOne _ _ _ rfl
theorem dX10_newsOfOne_13 : decode cX10_newsOfOne 13 = .ok (.iload_n 1, 1) := DX10_newsOfOne _ _ _ rfl
theorem dX10_newsOfOne_14 : decode cX10_newsOfOne 14 = .ok (.invokestatic 76, 3) := DX10_newsOfOne _ _ _ rfl
theorem dX10_newsOfOne_17 : decode cX10_newsOfOne 17 = .ok (.ifCond .eq 9, 3) := DX10_newsOfOne _ _ _ rfl
theorem dX10_newsOfOne_26 : decode cX10_newsOfOne 26 = .ok (.iinc 3 1, 3) := DX10_newsOfOne _ _ _ rfl
theorem dX10_newsOfOne_29 : decode cX10_newsOfOne 29 = .ok (.goto (-25), 3) := DX10_newsOfOne _ _ _ rfl
theorem dX10_newsOfOne_20 : decode cX10_newsOfOne 20 = .ok (.iload_n 2, 1) := DX10_newsOfOne _ _ _ rfl
theorem dX10_newsOfOne_21 : decode cX10_newsOfOne 21 = .ok (.iconst 1, 1) := DX10_newsOfOne _ _ _ rfl
theorem dX10_newsOfOne_22 : decode cX10_newsOfOne 22 = .ok (.iload_n 3, 1) := DX10_newsOfOne _ _ _ rfl
theorem dX10_newsOfOne_23 : decode cX10_newsOfOne 23 = .ok (.ishl, 1) := DX10_newsOfOne _ _ _ rfl
theorem dX10_newsOfOne_24 : decode cX10_newsOfOne 24 = .ok (.ior, 1) := DX10_newsOfOne _ _ _ rfl
theorem dX10_newsOfOne_25 : decode cX10_newsOfOne 25 = .ok (.istore_n 2, 1) := DX10_newsOfOne _ _ _ rfl
theorem dX10_isOpen_0 : decode cX10_isOpen 0 = .ok (.aload_n 0, 1) := DX10_isOpen _ _ _ rfl
theorem dX10_isOpen_1 : decode cX10_isOpen 1 = .ok (.iload_n 1, 1) := DX10_isOpen _ _ _ rfl
theorem dX10_isOpen_2 : decode cX10_isOpen 2 = .ok (.iconst 2, 1) := DX10_isOpen _ _ _ rfl
theorem dX10_isOpen_3 : decode cX10_isOpen 3 = .ok (.invokevirtual 88, 3) := DX10_isOpen _ _ _ rfl
theorem dX10_isOpen_6 : decode cX10_isOpen 6 = .ok (.iload_n 2, 1) := DX10_isOpen _ _ _ rfl
theorem dX10_isOpen_7 : decode cX10_isOpen 7 = .ok (.if_icmp .gt 17, 3) := DX10_isOpen _ _ _ rfl
theorem dX10_isOpen_24 : decode cX10_isOpen 24 = .ok (.iconst 0, 1) := DX10_isOpen _ _ _ rfl
theorem dX10_isOpen_25 : decode cX10_isOpen 25 = .ok (.ireturn, 1) := DX10_isOpen _ _ _ rfl
theorem dX10_isOpen_10 : decode cX10_isOpen 10 = .ok (.iload_n 2, 1) := DX10_isOpen _ _ _ rfl
theorem dX10_isOpen_11 : decode cX10_isOpen 11 = .ok (.aload_n 0, 1) := DX10_isOpen _ _ _ rfl
theorem dX10_isOpen_12 : decode cX10_isOpen 12 = .ok (.iload_n 1, 1) := DX10_isOpen _ _ _ rfl
theorem dX10_isOpen_13 : decode cX10_isOpen 13 = .ok (.iconst 3, 1) := DX10_isOpen _ _ _ rfl
theorem dX10_isOpen_14 : decode cX10_isOpen 14 = .ok (.invokevirtual 88, 3) := DX10_isOpen _ _ _ rfl
theorem dX10_isOpen_17 : decode cX10_isOpen 17 = .ok (.if_icmp .gt 7, 3) := DX10_isOpen _ _ _ rfl
theorem dX10_isOpen_20 : decode cX10_isOpen 20 = .ok (.iconst 1, 1) := DX10_isOpen _ _ _ rfl
theorem dX10_isOpen_21 : decode cX10_isOpen 21 = .ok (.goto 4, 3) := DX10_isOpen _ _ _ rfl
theorem dX10_works_0 : decode cX10_works 0 = .ok (.aload_n 0, 1) := DX10_works _ _ _ rfl
theorem dX10_works_1 : decode cX10_works 1 = .ok (.iload_n 1, 1) := DX10_works _ _ _ rfl
theorem dX10_works_2 : decode cX10_works 2 = .ok (.iconst 5, 1) := DX10_works _ _ _ rfl
theorem dX10_works_3 : decode cX10_works 3 = .ok (.invokevirtual 88, 3) := DX10_works _ _ _ rfl
theorem dX10_works_6 : decode cX10_works 6 = .ok (.istore_n 3, 1) := DX10_works _ _ _ rfl
theorem dX10_works_7 : decode cX10_works 7 = .ok (.aload_n 0, 1) := DX10_works _ _ _ rfl
theorem dX10_works_8 : decode cX10_works 8 = .ok (.iload_n 1, 1) := DX10_works _ _ _ rfl
theorem dX10_works_9 : decode cX10_works 9 = .ok (.iload_n 2, 1) := DX10_works _ _ _ rfl
theorem dX10_works_10 : decode cX10_works 10 = .ok (.invokevirtual 92, 3) := DX10_works _ _ _ rfl
theorem dX10_works_13 : decode cX10_works 13 = .ok (.ifCond .eq 17, 3) := DX10_works _ _ _ rfl
theorem dX10_works_30 : decode cX10_works 30 = .ok (.iconst 0, 1) := DX10_works _ _ _ rfl
theorem dX10_works_31 : decode cX10_works 31 = .ok (.ireturn, 1) := DX10_works _ _ _ rfl
theorem dX10_works_16 : decode cX10_works 16 = .ok (.iload_n 3, 1) := DX10_works _ _ _ rfl
theorem dX10_works_17 : decode cX10_works 17 = .ok (.iconst (-1), 1) := DX10_works _ _ _ rfl
theorem dX10_works_18 : decode cX10_works 18 = .ok (.if_icmp .eq 8, 3) := DX10_works _ _ _ rfl
theorem dX10_works_26 : decode cX10_works 26 = .ok (.iconst 1, 1) := DX10_works _ _ _ rfl
theorem dX10_works_27 : decode cX10_works 27 = .ok (.goto 4, 3) := DX10_works _ _ _ rfl
theorem dX10_works_21 : decode cX10_works 21 = .ok (.iload_n 2, 1) := DX10_works _ _ _ rfl
theorem dX10_works_22 : decode cX10_works 22 = .ok (.iload_n 3, 1) := DX10_works _ _ _ rfl
theorem dX10_works_23 : decode cX10_works 23 = .ok (.if_icmp .ge 7, 3) := DX10_works _ _ _ rfl
theorem dX10_lookAtLines_0 : decode cX10_lookAtLines 0 = .ok (.aload_n 0, 1) := DX10_lookAtLines _ _ _ rfl
theorem dX10_lookAtLines_1 : decode cX10_lookAtLines 1 = .ok (.getfield 33, 3) := DX10_lookAtLines _ _ _ rfl
theorem dX10_lookAtLines_4 : decode cX10_lookAtLines 4 = .ok (.iconst 0, 1) := DX10_lookAtLines _ _ _ rfl
theorem dX10_lookAtLines_5 : decode cX10_lookAtLines 5 = .ok (.invokestatic 63, 3) := DX10_lookAtLines _ _ _ rfl
theorem dX10_lookAtLines_8 : decode cX10_lookAtLines 8 = .ok (.iconst 0, 1) := DX10_lookAtLines _ _ _ rfl
theorem dX10_lookAtLines_9 : decode cX10_lookAtLines 9 = .ok (.istore_n 1, 1) := DX10_lookAtLines _ _ _ rfl
theorem dX10_lookAtLines_10 : decode cX10_lookAtLines 10 = .ok (.iload_n 1, 1) := DX10_lookAtLines _ _ _ rfl
theorem dX10_lookAtLines_11 : decode cX10_lookAtLines 11 = .ok (.aload_n 0, 1) := DX10_lookAtLines _ _ _ rfl
theorem dX10_lookAtLines_12 : decode cX10_lookAtLines 12 = .ok (.getfield 57, 3) := DX10_lookAtLines _ _ _ rfl
theorem dX10_lookAtLines_15 : decode cX10_lookAtLines 15 = .ok (.if_icmp .ge 91, 3) := DX10_lookAtLines _ _ _ rfl
theorem dX10_lookAtLines_106 : decode cX10_lookAtLines 106 = .ok (.return_, 1) := DX10_lookAtLines _ _ _ rfl
theorem dX10_lookAtLines_18 : decode cX10_lookAtLines 18 = .ok (.aload_n 0, 1) := DX10_lookAtLines _ _ _ rfl
theorem dX10_lookAtLines_19 : decode cX10_lookAtLines 19 = .ok (.iload_n 1, 1) := DX10_lookAtLines _ _ _ rfl
theorem dX10_lookAtLines_20 : decode cX10_lookAtLines 20 = .ok (.invokevirtual 95, 3) := DX10_lookAtLines _ _ _ rfl
theorem dX10_lookAtLines_23 : decode cX10_lookAtLines 23 = .ok (.istore_n 2, 1) := DX10_lookAtLines _ _ _ rfl
theorem dX10_lookAtLines_24 : decode cX10_lookAtLines 24 = .ok (.aload_n 0, 1) := DX10_lookAtLines _ _ _ rfl
theorem dX10_lookAtLines_25 : decode cX10_lookAtLines 25 = .ok (.iload_n 1, 1) := DX10_lookAtLines _ _ _ rfl
theorem dX10_lookAtLines_26 : decode cX10_lookAtLines 26 = .ok (.invokevirtual 99, 3) := DX10_lookAtLines _ _ _ rfl
theorem dX10_lookAtLines_29 : decode cX10_lookAtLines 29 = .ok (.istore_n 3, 1) := DX10_lookAtLines _ _ _ rfl
theorem dX10_lookAtLines_30 : decode cX10_lookAtLines 30 = .ok (.iconst 1, 1) := DX10_lookAtLines _ _ _ rfl
theorem dX10_lookAtLines_31 : decode cX10_lookAtLines 31 = .ok (.istore 4, 2) := DX10_lookAtLines _ _ _ rfl
theorem dX10_lookAtLines_33 : decode cX10_lookAtLines 33 = .ok (.iload 4, 2) := DX10_lookAtLines _ _ _ rfl
theorem dX10_lookAtLines_35 : decode cX10_lookAtLines 35 = .ok (.bipush 24, 2) := DX10_lookAtLines _ _ _ rfl
theorem dX10_lookAtLines_37 : decode cX10_lookAtLines 37 = .ok (.if_icmp .gt 63, 3) := DX10_lookAtLines _ _ _ rfl
theorem dX10_lookAtLines_100 : decode cX10_lookAtLines 100 = .ok (.iinc 1 1, 3) := DX10_lookAtLines _ _ _ rfl
theorem dX10_lookAtLines_103 : decode cX10_lookAtLines 103 = .ok (.goto (-93), 3) := DX10_lookAtLines _ _ _ rfl
theorem dX10_lookAtLines_40 : decode cX10_lookAtLines 40 = .ok (.aload_n 0, 1) := DX10_lookAtLines _ _ _ rfl
theorem dX10_lookAtLines_41 : decode cX10_lookAtLines 41 = .ok (.iload_n 1, 1) := DX10_lookAtLines _ _ _ rfl
theorem dX10_lookAtLines_42 : decode cX10_lookAtLines 42 = .ok (.iload 4, 2) := DX10_lookAtLines _ _ _ rfl
theorem dX10_lookAtLines_44 : decode cX10_lookAtLines 44 = .ok (.invokevirtual 102, 3) := DX10_lookAtLines _ _ _ rfl
theorem dX10_lookAtLines_47 : decode cX10_lookAtLines 47 = .ok (.ifCond .eq 47, 3) := DX10_lookAtLines _ _ _ rfl
theorem dX10_lookAtLines_94 : decode cX10_lookAtLines 94 = .ok (.iinc 4 1, 3) := DX10_lookAtLines _ _ _ rfl
theorem dX10_lookAtLines_97 : decode cX10_lookAtLines 97 = .ok (.goto (-64), 3) := DX10_lookAtLines _ _ _ rfl
theorem dX10_lookAtLines_50 : decode cX10_lookAtLines 50 = .ok (.aload_n 0, 1) := DX10_lookAtLines _ _ _ rfl
theorem dX10_lookAtLines_51 : decode cX10_lookAtLines 51 = .ok (.getfield 33, 3) := DX10_lookAtLines _ _ _ rfl
theorem dX10_lookAtLines_54 : decode cX10_lookAtLines 54 = .ok (.iload 4, 2) := DX10_lookAtLines _ _ _ rfl
theorem dX10_lookAtLines_56 : decode cX10_lookAtLines 56 = .ok (.bipush 7, 2) := DX10_lookAtLines _ _ _ rfl
theorem dX10_lookAtLines_58 : decode cX10_lookAtLines 58 = .ok (.imul, 1) := DX10_lookAtLines _ _ _ rfl
theorem dX10_lookAtLines_59 : decode cX10_lookAtLines 59 = .ok (.iload_n 2, 1) := DX10_lookAtLines _ _ _ rfl
theorem dX10_lookAtLines_60 : decode cX10_lookAtLines 60 = .ok (.iadd, 1) := DX10_lookAtLines _ _ _ rfl
theorem dX10_lookAtLines_61 : decode cX10_lookAtLines 61 = .ok (.dup2, 1) := DX10_lookAtLines _ _ _ rfl
theorem dX10_lookAtLines_62 : decode cX10_lookAtLines 62 = .ok (.iaload, 1) := DX10_lookAtLines _ _ _ rfl
theorem dX10_lookAtLines_63 : decode cX10_lookAtLines 63 = .ok (.iconst 1, 1) := DX10_lookAtLines _ _ _ rfl
theorem dX10_lookAtLines_64 : decode cX10_lookAtLines 64 = .ok (.iload_n 3, 1) := DX10_lookAtLines _ _ _ rfl
theorem dX10_lookAtLines_65 : decode cX10_lookAtLines 65 = .ok (.ishl, 1) := DX10_lookAtLines _ _ _ rfl
theorem dX10_lookAtLines_66 : decode cX10_lookAtLines 66 = .ok (.ior, 1) := DX10_lookAtLines _ _ _ rfl
theorem dX10_lookAtLines_67 : decode cX10_lookAtLines 67 = .ok (.iastore, 1) := DX10_lookAtLines _ _ _ rfl
theorem dX10_lookAtLines_68 : decode cX10_lookAtLines 68 = .ok (.aload_n 0, 1) := DX10_lookAtLines _ _ _ rfl
theorem dX10_lookAtLines_69 : decode cX10_lookAtLines 69 = .ok (.iload_n 1, 1) := DX10_lookAtLines _ _ _ rfl
theorem dX10_lookAtLines_70 : decode cX10_lookAtLines 70 = .ok (.invokevirtual 105, 3) := DX10_lookAtLines _ _ _ rfl
theorem dX10_lookAtLines_73 : decode cX10_lookAtLines 73 = .ok (.ifCond .ne 21, 3) := DX10_lookAtLines _ _ _ rfl
theorem dX10_lookAtLines_76 : decode cX10_lookAtLines 76 = .ok (.aload_n 0, 1) := DX10_lookAtLines _ _ _ rfl
theorem dX10_lookAtLines_77 : decode cX10_lookAtLines 77 = .ok (.getfield 33, 3) := DX10_lookAtLines _ _ _ rfl
theorem dX10_lookAtLines_80 : decode cX10_lookAtLines 80 = .ok (.iload 4, 2) := DX10_lookAtLines _ _ _ rfl
theorem dX10_lookAtLines_82 : decode cX10_lookAtLines 82 = .ok (.bipush 7, 2) := DX10_lookAtLines _ _ _ rfl
theorem dX10_lookAtLines_84 : decode cX10_lookAtLines 84 = .ok (.imul, 1) := DX10_lookAtLines _ _ _ rfl
theorem dX10_lookAtLines_85 : decode cX10_lookAtLines 85 = .ok (.iload_n 3, 1) := DX10_lookAtLines _ _ _ rfl
theorem dX10_lookAtLines_86 : decode cX10_lookAtLines 86 = .ok (.iadd, 1) := DX10_lookAtLines _ _ _ rfl
theorem dX10_lookAtLines_87 : decode cX10_lookAtLines 87 = .ok (.dup2, 1) := DX10_lookAtLines _ _ _ rfl
theorem dX10_lookAtLines_88 : decode cX10_lookAtLines 88 = .ok (.iaload, 1) := DX10_lookAtLines _ _ _ rfl
theorem dX10_lookAtLines_89 : decode cX10_lookAtLines 89 = .ok (.iconst 1, 1) := DX10_lookAtLines _ _ _ rfl
theorem dX10_lookAtLines_90 : decode cX10_lookAtLines 90 = .ok (.iload_n 2, 1) := DX10_lookAtLines _ _ _ rfl
theorem dX10_lookAtLines_91 : decode cX10_lookAtLines 91 = .ok (.ishl, 1) := DX10_lookAtLines _ _ _ rfl
theorem dX10_lookAtLines_92 : decode cX10_lookAtLines 92 = .ok (.ior, 1) := DX10_lookAtLines _ _ _ rfl
theorem dX10_lookAtLines_93 : decode cX10_lookAtLines 93 = .ok (.iastore, 1) := DX10_lookAtLines _ _ _ rfl
theorem dX10_settle_0 : decode cX10_settle 0 = .ok (.aload_n 0, 1) := DX10_settle _ _ _ rfl
theorem dX10_settle_1 : decode cX10_settle 1 = .ok (.getfield 42, 3) := DX10_settle _ _ _ rfl
theorem dX10_settle_4 : decode cX10_settle 4 = .ok (.iconst (-1), 1) := DX10_settle _ _ _ rfl
theorem dX10_settle_5 : decode cX10_settle 5 = .ok (.invokestatic 63, 3) := DX10_settle _ _ _ rfl
theorem dX10_settle_8 : decode cX10_settle 8 = .ok (.iconst 0, 1) := DX10_settle _ _ _ rfl
theorem dX10_settle_9 : decode cX10_settle 9 = .ok (.istore_n 1, 1) := DX10_settle _ _ _ rfl
theorem dX10_settle_10 : decode cX10_settle 10 = .ok (.iload_n 1, 1) := DX10_settle _ _ _ rfl
theorem dX10_settle_11 : decode cX10_settle 11 = .ok (.bipush 7, 2) := DX10_settle _ _ _ rfl
theorem dX10_settle_13 : decode cX10_settle 13 = .ok (.if_icmp .ge 51, 3) := DX10_settle _ _ _ rfl
theorem dX10_settle_64 : decode cX10_settle 64 = .ok (.aload_n 0, 1) := DX10_settle _ _ _ rfl
theorem dX10_settle_65 : decode cX10_settle 65 = .ok (.invokevirtual 73, 3) := DX10_settle _ _ _ rfl
theorem dX10_settle_68 : decode cX10_settle 68 = .ok (.return_, 1) := DX10_settle _ _ _ rfl
theorem dX10_settle_16 : decode cX10_settle 16 = .ok (.aload_n 0, 1) := DX10_settle _ _ _ rfl
theorem dX10_settle_17 : decode cX10_settle 17 = .ok (.getfield 21, 3) := DX10_settle _ _ _ rfl
theorem dX10_settle_20 : decode cX10_settle 20 = .ok (.iload_n 1, 1) := DX10_settle _ _ _ rfl
theorem dX10_settle_21 : decode cX10_settle 21 = .ok (.aload_n 0, 1) := DX10_settle _ _ _ rfl
theorem dX10_settle_22 : decode cX10_settle 22 = .ok (.getfield 9, 3) := DX10_settle _ _ _ rfl
theorem dX10_settle_25 : decode cX10_settle 25 = .ok (.iload_n 1, 1) := DX10_settle _ _ _ rfl
theorem dX10_settle_26 : decode cX10_settle 26 = .ok (.invokestatic 69, 3) := DX10_settle _ _ _ rfl
theorem dX10_settle_29 : decode cX10_settle 29 = .ok (.iastore, 1) := DX10_settle _ _ _ rfl
theorem dX10_settle_30 : decode cX10_settle 30 = .ok (.aload_n 0, 1) := DX10_settle _ _ _ rfl
theorem dX10_settle_31 : decode cX10_settle 31 = .ok (.getfield 24, 3) := DX10_settle _ _ _ rfl
theorem dX10_settle_34 : decode cX10_settle 34 = .ok (.iload_n 1, 1) := DX10_settle _ _ _ rfl
theorem dX10_settle_35 : decode cX10_settle 35 = .ok (.aload_n 0, 1) := DX10_settle _ _ _ rfl
theorem dX10_settle_36 : decode cX10_settle 36 = .ok (.getfield 15, 3) := DX10_settle _ _ _ rfl
theorem dX10_settle_39 : decode cX10_settle 39 = .ok (.iload_n 1, 1) := DX10_settle _ _ _ rfl
theorem dX10_settle_40 : decode cX10_settle 40 = .ok (.invokestatic 69, 3) := DX10_settle _ _ _ rfl
theorem dX10_settle_43 : decode cX10_settle 43 = .ok (.iastore, 1) := DX10_settle _ _ _ rfl
theorem dX10_settle_44 : decode cX10_settle 44 = .ok (.aload_n 0, 1) := DX10_settle _ _ _ rfl
theorem dX10_settle_45 : decode cX10_settle 45 = .ok (.getfield 27, 3) := DX10_settle _ _ _ rfl
theorem dX10_settle_48 : decode cX10_settle 48 = .ok (.iload_n 1, 1) := DX10_settle _ _ _ rfl
theorem dX10_settle_49 : decode cX10_settle 49 = .ok (.aload_n 0, 1) := DX10_settle _ _ _ rfl
theorem dX10_settle_50 : decode cX10_settle 50 = .ok (.getfield 18, 3) := DX10_settle _ _ _ rfl
theorem dX10_settle_53 : decode cX10_settle 53 = .ok (.iload_n 1, 1) := DX10_settle _ _ _ rfl
theorem dX10_settle_54 : decode cX10_settle 54 = .ok (.invokestatic 69, 3) := DX10_settle _ _ _ rfl
theorem dX10_settle_57 : decode cX10_settle 57 = .ok (.iastore, 1) := DX10_settle _ _ _ rfl
theorem dX10_settle_58 : decode cX10_settle 58 = .ok (.iinc 1 1, 3) := DX10_settle _ _ _ rfl
theorem dX10_settle_61 : decode cX10_settle 61 = .ok (.goto (-51), 3) := DX10_settle _ _ _ rfl
theorem dX10_hasPerson_0 : decode cX10_hasPerson 0 = .ok (.iload_n 1, 1) := DX10_hasPerson _ _ _ rfl
theorem dX10_hasPerson_1 : decode cX10_hasPerson 1 = .ok (.ifCond .lt 15, 3) := DX10_hasPerson _ _ _ rfl
theorem dX10_hasPerson_16 : decode cX10_hasPerson 16 = .ok (.iconst 0, 1) := DX10_hasPerson _ _ _ rfl
theorem dX10_hasPerson_17 : decode cX10_hasPerson 17 = .ok (.ireturn, 1) := DX10_hasPerson _ _ _ rfl
theorem dX10_hasPerson_4 : decode cX10_hasPerson 4 = .ok (.iload_n 1, 1) := DX10_hasPerson _ _ _ rfl
theorem dX10_hasPerson_5 : decode cX10_hasPerson 5 = .ok (.aload_n 0, 1) := DX10_hasPerson _ _ _ rfl
theorem dX10_hasPerson_6 : decode cX10_hasPerson 6 = .ok (.getfield 54, 3) := DX10_hasPerson _ _ _ rfl
theorem dX10_hasPerson_9 : decode cX10_hasPerson 9 = .ok (.if_icmp .ge 7, 3) := DX10_hasPerson _ _ _ rfl
theorem dX10_hasPerson_12 : decode cX10_hasPerson 12 = .ok (.iconst 1, 1) := DX10_hasPerson _ _ _ rfl
theorem dX10_hasPerson_13 : decode cX10_hasPerson 13 = .ok (.goto 4, 3) := DX10_hasPerson _ _ _ rfl
theorem dX10_hasCouple_0 : decode cX10_hasCouple 0 = .ok (.aload_n 0, 1) := DX10_hasCouple _ _ _ rfl
theorem dX10_hasCouple_1 : decode cX10_hasCouple 1 = .ok (.iload_n 1, 1) := DX10_hasCouple _ _ _ rfl
theorem dX10_hasCouple_2 : decode cX10_hasCouple 2 = .ok (.invokevirtual 80, 3) := DX10_hasCouple _ _ _ rfl
theorem dX10_hasCouple_5 : decode cX10_hasCouple 5 = .ok (.ifCond .eq 20, 3) := DX10_hasCouple _ _ _ rfl
theorem dX10_hasCouple_25 : decode cX10_hasCouple 25 = .ok (.iconst 0, 1) := DX10_hasCouple _ _ _ rfl
theorem dX10_hasCouple_26 : decode cX10_hasCouple 26 = .ok (.ireturn, 1) := DX10_hasCouple _ _ _ rfl
theorem dX10_hasCouple_8 : decode cX10_hasCouple 8 = .ok (.aload_n 0, 1) := DX10_hasCouple _ _ _ rfl
theorem dX10_hasCouple_9 : decode cX10_hasCouple 9 = .ok (.iload_n 2, 1) := DX10_hasCouple _ _ _ rfl
theorem dX10_hasCouple_10 : decode cX10_hasCouple 10 = .ok (.invokevirtual 80, 3) := DX10_hasCouple _ _ _ rfl
theorem dX10_hasCouple_13 : decode cX10_hasCouple 13 = .ok (.ifCond .eq 12, 3) := DX10_hasCouple _ _ _ rfl
theorem dX10_hasCouple_16 : decode cX10_hasCouple 16 = .ok (.iload_n 1, 1) := DX10_hasCouple _ _ _ rfl
theorem dX10_hasCouple_17 : decode cX10_hasCouple 17 = .ok (.iload_n 2, 1) := DX10_hasCouple _ _ _ rfl
theorem dX10_hasCouple_18 : decode cX10_hasCouple 18 = .ok (.if_icmp .eq 7, 3) := DX10_hasCouple _ _ _ rfl
theorem dX10_hasCouple_21 : decode cX10_hasCouple 21 = .ok (.iconst 1, 1) := DX10_hasCouple _ _ _ rfl
theorem dX10_hasCouple_22 : decode cX10_hasCouple 22 = .ok (.goto 4, 3) := DX10_hasCouple _ _ _ rfl
theorem dX10_hasLine_0 : decode cX10_hasLine 0 = .ok (.iload_n 1, 1) := DX10_hasLine _ _ _ rfl
theorem dX10_hasLine_1 : decode cX10_hasLine 1 = .ok (.ifCond .lt 15, 3) := DX10_hasLine _ _ _ rfl
theorem dX10_hasLine_16 : decode cX10_hasLine 16 = .ok (.iconst 0, 1) := DX10_hasLine _ _ _ rfl
theorem dX10_hasLine_17 : decode cX10_hasLine 17 = .ok (.ireturn, 1) := DX10_hasLine _ _ _ rfl
theorem dX10_hasLine_4 : decode cX10_hasLine 4 = .ok (.iload_n 1, 1) := DX10_hasLine _ _ _ rfl
theorem dX10_hasLine_5 : decode cX10_hasLine 5 = .ok (.aload_n 0, 1) := DX10_hasLine _ _ _ rfl
theorem dX10_hasLine_6 : decode cX10_hasLine 6 = .ok (.getfield 57, 3) := DX10_hasLine _ _ _ rfl
theorem dX10_hasLine_9 : decode cX10_hasLine 9 = .ok (.if_icmp .ge 7, 3) := DX10_hasLine _ _ _ rfl
theorem dX10_hasLine_12 : decode cX10_hasLine 12 = .ok (.iconst 1, 1) := DX10_hasLine _ _ _ rfl
theorem dX10_hasLine_13 : decode cX10_hasLine 13 = .ok (.goto 4, 3) := DX10_hasLine _ _ _ rfl
theorem dX10_callable_0 : decode cX10_callable 0 = .ok (.aload_n 0, 1) := DX10_callable _ _ _ rfl
theorem dX10_callable_1 : decode cX10_callable 1 = .ok (.getfield 33, 3) := DX10_callable _ _ _ rfl
theorem dX10_callable_4 : decode cX10_callable 4 = .ok (.iload_n 2, 1) := DX10_callable _ _ _ rfl
theorem dX10_callable_5 : decode cX10_callable 5 = .ok (.bipush 7, 2) := DX10_callable _ _ _ rfl
theorem dX10_callable_7 : decode cX10_callable 7 = .ok (.imul, 1) := DX10_callable _ _ _ rfl
theorem dX10_callable_8 : decode cX10_callable 8 = .ok (.iload_n 1, 1) := DX10_callable _ _ _ rfl
theorem dX10_callable_9 : decode cX10_callable 9 = .ok (.iadd, 1) := DX10_callable _ _ _ rfl
theorem dX10_callable_10 : decode cX10_callable 10 = .ok (.iaload, 1) := DX10_callable _ _ _ rfl
theorem dX10_callable_11 : decode cX10_callable 11 = .ok (.ireturn, 1) := DX10_callable _ _ _ rfl
theorem dX10_appendToCard_0 : decode cX10_appendToCard 0 = .ok (.aload_n 0, 1) := DX10_appendToCard _ _ _ rfl
theorem dX10_appendToCard_1 : decode cX10_appendToCard 1 = .ok (.getfield 39, 3) := DX10_appendToCard _ _ _ rfl
theorem dX10_appendToCard_4 : decode cX10_appendToCard 4 = .ok (.iload_n 1, 1) := DX10_appendToCard _ _ _ rfl
theorem dX10_appendToCard_5 : decode cX10_appendToCard 5 = .ok (.iaload, 1) := DX10_appendToCard _ _ _ rfl
theorem dX10_appendToCard_6 : decode cX10_appendToCard 6 = .ok (.istore_n 3, 1) := DX10_appendToCard _ _ _ rfl
theorem dX10_appendToCard_7 : decode cX10_appendToCard 7 = .ok (.iload_n 3, 1) := DX10_appendToCard _ _ _ rfl
theorem dX10_appendToCard_8 : decode cX10_appendToCard 8 = .ok (.bipush 6, 2) := DX10_appendToCard _ _ _ rfl
theorem dX10_appendToCard_10 : decode cX10_appendToCard 10 = .ok (.if_icmp .lt 5, 3) := DX10_appendToCard _ _ _ rfl
theorem dX10_appendToCard_15 : decode cX10_appendToCard 15 = .ok (.aload_n 0, 1) := DX10_appendToCard _ _ _ rfl
theorem dX10_appendToCard_16 : decode cX10_appendToCard 16 = .ok (.getfield 36, 3) := DX10_appendToCard _ _ _ rfl
theorem dX10_appendToCard_19 : decode cX10_appendToCard 19 = .ok (.iload_n 1, 1) := DX10_appendToCard _ _ _ rfl
theorem dX10_appendToCard_20 : decode cX10_appendToCard 20 = .ok (.bipush 6, 2) := DX10_appendToCard _ _ _ rfl
theorem dX10_appendToCard_22 : decode cX10_appendToCard 22 = .ok (.imul, 1) := DX10_appendToCard _ _ _ rfl
theorem dX10_appendToCard_23 : decode cX10_appendToCard 23 = .ok (.iload_n 3, 1) := DX10_appendToCard _ _ _ rfl
theorem dX10_appendToCard_24 : decode cX10_appendToCard 24 = .ok (.iadd, 1) := DX10_appendToCard _ _ _ rfl
theorem dX10_appendToCard_25 : decode cX10_appendToCard 25 = .ok (.iload_n 2, 1) := DX10_appendToCard _ _ _ rfl
theorem dX10_appendToCard_26 : decode cX10_appendToCard 26 = .ok (.iastore, 1) := DX10_appendToCard _ _ _ rfl
theorem dX10_appendToCard_27 : decode cX10_appendToCard 27 = .ok (.aload_n 0, 1) := DX10_appendToCard _ _ _ rfl
theorem dX10_appendToCard_28 : decode cX10_appendToCard 28 = .ok (.getfield 39, 3) := DX10_appendToCard _ _ _ rfl
theorem dX10_appendToCard_31 : decode cX10_appendToCard 31 = .ok (.iload_n 1, 1) := DX10_appendToCard _ _ _ rfl
theorem dX10_appendToCard_32 : decode cX10_appendToCard 32 = .ok (.iload_n 3, 1) := DX10_appendToCard _ _ _ rfl
theorem dX10_appendToCard_33 : decode cX10_appendToCard 33 = .ok (.iconst 1, 1) := DX10_appendToCard _ _ _ rfl
theorem dX10_appendToCard_34 : decode cX10_appendToCard 34 = .ok (.iadd, 1) := DX10_appendToCard _ _ _ rfl
theorem dX10_appendToCard_35 : decode cX10_appendToCard 35 = .ok (.iastore, 1) := DX10_appendToCard _ _ _ rfl
theorem dX10_appendToCard_36 : decode cX10_appendToCard 36 = .ok (.iload_n 3, 1) := DX10_appendToCard _ _ _ rfl
theorem dX10_appendToCard_37 : decode cX10_appendToCard 37 = .ok (.iconst 1, 1) := DX10_appendToCard _ _ _ rfl
theorem dX10_appendToCard_38 : decode cX10_appendToCard 38 = .ok (.iadd, 1) := DX10_appendToCard _ _ _ rfl
theorem dX10_appendToCard_39 : decode cX10_appendToCard 39 = .ok (.ireturn, 1) := DX10_appendToCard _ _ _ rfl
theorem dX10_appendToCard_13 : decode cX10_appendToCard 13 = .ok (.iconst (-1), 1) := DX10_appendToCard _ _ _ rfl
theorem dX10_appendToCard_14 : decode cX10_appendToCard 14 = .ok (.ireturn, 1) := DX10_appendToCard _ _ _ rfl
theorem dX10_emptyCards_0 : decode cX10_emptyCards 0 = .ok (.aload_n 0, 1) := DX10_emptyCards _ _ _ rfl
theorem dX10_emptyCards_1 : decode cX10_emptyCards 1 = .ok (.getfield 39, 3) := DX10_emptyCards _ _ _ rfl
theorem dX10_emptyCards_4 : decode cX10_emptyCards 4 = .ok (.iconst 0, 1) := DX10_emptyCards _ _ _ rfl
theorem dX10_emptyCards_5 : decode cX10_emptyCards 5 = .ok (.invokestatic 63, 3) := DX10_emptyCards _ _ _ rfl
theorem dX10_emptyCards_8 : decode cX10_emptyCards 8 = .ok (.return_, 1) := DX10_emptyCards _ _ _ rfl
theorem dX10_setTale_0 : decode cX10_setTale 0 = .ok (.aload_n 0, 1) := DX10_setTale _ _ _ rfl
theorem dX10_setTale_1 : decode cX10_setTale 1 = .ok (.getfield 42, 3) := DX10_setTale _ _ _ rfl
theorem dX10_setTale_4 : decode cX10_setTale 4 = .ok (.iload_n 1, 1) := DX10_setTale _ _ _ rfl
theorem dX10_setTale_5 : decode cX10_setTale 5 = .ok (.bipush 7, 2) := DX10_setTale _ _ _ rfl
theorem dX10_setTale_7 : decode cX10_setTale 7 = .ok (.imul, 1) := DX10_setTale _ _ _ rfl
theorem dX10_setTale_8 : decode cX10_setTale 8 = .ok (.iload_n 2, 1) := DX10_setTale _ _ _ rfl
theorem dX10_setTale_9 : decode cX10_setTale 9 = .ok (.iadd, 1) := DX10_setTale _ _ _ rfl
theorem dX10_setTale_10 : decode cX10_setTale 10 = .ok (.iload_n 3, 1) := DX10_setTale _ _ _ rfl
theorem dX10_setTale_11 : decode cX10_setTale 11 = .ok (.iastore, 1) := DX10_setTale _ _ _ rfl
theorem dX10_setTale_12 : decode cX10_setTale 12 = .ok (.return_, 1) := DX10_setTale _ _ _ rfl
def L1_X10_newsOfOnes (kr : Nat → Int32) (one : Int32) (j1 : Nat) (x2_1 : Int32) : Int32 := if hasv (kr j1) one = 0 then (x2_1) else (x2_1 ||| ((1 : Int32) <<< ((nI j1) &&& 31)))
def L1_X10_newsOfOne (kr : Nat → Int32) (one : Int32) (i0_ : Int32) : Nat → Int32
  | 0 => (i0_)
  | k_ + 1 => L1_X10_newsOfOnes kr one k_ (L1_X10_newsOfOne kr one i0_ k_)
def F_X10_newsOfOne (kr : Nat → Int32) (one : Int32) : Int32 := (L1_X10_newsOfOne kr one (0 : Int32) 4)
set_option maxHeartbeats 4000000 in
set_option maxRecDepth 100000 in
theorem K_X10_newsOfOne (l : Launch) (g : GG) (q : Nat) (kr : Nat → Int32) (one : Int32)  : MetI l g yX10_newsOfOne cX10_newsOfOne 4 (some .int) 1 0 0 [.ref q, .int one] [(q, .inl (g.2.1 1, 4, .inl kr))] (fun r u => r = (F_X10_newsOfOne kr one) ∧ u = [(q, .inl (g.2.1 1, 4, .inl kr))]) := by
  refine MetI.of (own := RX10) rfl (by decide) (Nat.le_of_ble_eq_true rfl) ?_
  intro p e s m below meth c A ls args Q hQ X hr hin hW hl
  have hx := X.1
  have hb := X.2.1
  have hl : lv_has ls 4 [(0, .ref q), (1, .int one)] := hl
  refine lv_iconst (v := 0) (pc := 0) hx hb dX10_newsOfOne_0 (by decide) ?_
  refine lv_istore_n (lv' := [(2, .int 0), (0, .ref q), (1, .int one)]) (pc := 1) hx hb dX10_newsOfOne_1 rfl hl (by decide) rfl (fun ls hl => ?_)
  refine lv_iconst (v := 0) (pc := 2) hx hb dX10_newsOfOne_2 (by decide) ?_
  refine lv_istore_n (lv' := [(3, .int 0), (2, .int 0), (0, .ref q), (1, .int one)]) (pc := 3) hx hb dX10_newsOfOne_3 rfl hl (by decide) rfl (fun ls hl => ?_)
  have loop1 : ∀ (fu1 : Nat) (j1 : Nat) (x2_1 : Int32), (4 < fu1 + j1) → (j1 ≤ 4) → (x2_1 = L1_X10_newsOfOne kr one (0 : Int32) j1) → ∀ (H : Heap) (locs : List Loc) (ls : Array Slot), WD g A s H locs [(q, .inl (g.2.1 1, 4, .inl kr))] → lv_has ls 4 [(3, .int (nI j1)), (2, .int x2_1), (0, .ref q), (1, .int one)] → W p l e (RM 1 0 0) s m args below meth c H locs 0 0 Q (F0 m 4 ls []) := by
    intro fu1
    induction fu1 with
    | zero =>
      intro j1 x2_1 hm1 hj1 hst1
      exact absurd hm1 (by omega)
    | succ fu1 ih1 =>
      intro j1 x2_1 hm1 hj1 hst1 H locs ls hW hl
      refine lv_iload_n (pc := 4) hx hb dX10_newsOfOne_4 rfl (lv_at hl 0 rfl) ?_
      refine lv_aload_n (pc := 5) hx hb dX10_newsOfOne_5 rfl (lv_at hl 2 rfl) ?_
      refine r_alen (v := 4) X hW 0 1 rfl rfl rfl dX10_newsOfOne_6 ?_
      refine lv_icmp_ge (tgt := 32) (pc := 7) hx hb dX10_newsOfOne_7 rfl (fun c1 => ?_) (fun c1 => ?_)
      · have h2 : 4 ≤ j1 := (nI_leI (a := 4) (b := j1) (by omega) (by omega)).mp c1
        have hN1 : j1 = 4 := by omega
        rw [hN1] at hst1
        subst hst1
        have hW : WD g A s _ _ [(q, .inl (g.2.1 1, 4, .inl kr))] := hW
        refine lv_iload_n (pc := 32) hx hb dX10_newsOfOne_32 rfl (lv_at hl 1 rfl) ?_
        have hF : F_X10_newsOfOne kr one = (L1_X10_newsOfOne kr one (0 : Int32) 4) := show F_X10_newsOfOne kr one = (L1_X10_newsOfOne kr one (0 : Int32) 4) from rfl
        exact e_i (u := [(q, .inl (g.2.1 1, 4, .inl kr))]) X hQ hr (hW) [0] rfl rfl (⟨hF.symm, rfl⟩) ⟨Nat.le_of_ble_eq_true rfl, Nat.le_of_ble_eq_true rfl⟩ dX10_newsOfOne_33
      · have h3 : ¬ (4 ≤ j1) := fun q => c1 ((nI_leI (a := 4) (b := j1) (by omega) (by omega)).mpr q)
        refine lv_aload_n (pc := 10) hx hb dX10_newsOfOne_10 rfl (lv_at hl 2 rfl) ?_
        refine lv_iload_n (pc := 11) hx hb dX10_newsOfOne_11 rfl (lv_at hl 0 rfl) ?_
        refine r_iald X hW 0 rfl (vp_in_nI (by omega) (by decide)) dX10_newsOfOne_12 ?_
        refine lv_topi (fun v4 ev4 => ?_)
        obtain rfl : v4 = kr j1 := ev4.trans (by rw [nI_clamp (by omega)])
        refine lv_iload_n (pc := 13) hx hb dX10_newsOfOne_13 rfl (lv_at hl 3 rfl) ?_
        refine c_SNi (pc := 14) (As := [.int (kr j1), .int one]) (rest := []) (wr := [(q, .inl (g.2.1 1, 4, .inl kr))]) X hW (C_X11_has l g (kr j1) one) vX10_76 [] [0] rfl rfl rfl rfl rfl rfl hl.1 rfl (Nat.le_of_ble_eq_true rfl) ⟨Nat.le_of_ble_eq_true rfl, Nat.le_of_ble_eq_true rfl⟩ ⟨Nat.le_of_ble_eq_true rfl, Nat.le_of_ble_eq_true rfl⟩ dX10_newsOfOne_14 (fun r5 u9 H locs hq hW => ?_)
        obtain ⟨rfl, rfl⟩ := hq
        have hW : WD g A s _ _ [(q, .inl (g.2.1 1, 4, .inl kr))] := hW
        refine lv_if_eq (tgt := 26) (pc := 17) hx hb dX10_newsOfOne_17 rfl (fun c6 => ?_) (fun c6 => ?_)
        · refine lv_iinc (v := nI (j1 + 1)) (lv' := [(3, .int (nI (j1 + 1))), (2, .int x2_1), (0, .ref q), (1, .int one)]) (pc := 26) hx hb dX10_newsOfOne_26 hl (k := 0) rfl (nI_add j1 1) (by decide) rfl (fun ls hl => ?_)
          refine lv_goto (tgt := 4) (pc := 29) hx hb dX10_newsOfOne_29 rfl ?_
          exact ih1 (j1 + 1) x2_1 (by omega) (by omega) (by rw [L1_X10_newsOfOne, ← hst1]; exact (show L1_X10_newsOfOnes kr one j1 x2_1 = x2_1 from by rw [L1_X10_newsOfOnes, if_pos c6]).symm) _ _ _ hW (lv_sub hl [0, 1, 2, 3] rfl)
        · refine lv_iload_n (pc := 20) hx hb dX10_newsOfOne_20 rfl (lv_at hl 1 rfl) ?_
          refine lv_iconst (v := 1) (pc := 21) hx hb dX10_newsOfOne_21 (by decide) ?_
          refine lv_iload_n (pc := 22) hx hb dX10_newsOfOne_22 rfl (lv_at hl 0 rfl) ?_
          refine lv_ishl (pc := 23) hx hb dX10_newsOfOne_23 ?_
          refine lv_ior (pc := 24) hx hb dX10_newsOfOne_24 ?_
          refine lv_istore_n (lv' := [(2, .int (x2_1 ||| ((1 : Int32) <<< ((nI j1) &&& 31)))), (3, .int (nI j1)), (0, .ref q), (1, .int one)]) (pc := 25) hx hb dX10_newsOfOne_25 rfl hl (by decide) rfl (fun ls hl => ?_)
          refine lv_iinc (v := nI (j1 + 1)) (lv' := [(3, .int (nI (j1 + 1))), (2, .int (x2_1 ||| ((1 : Int32) <<< ((nI j1) &&& 31)))), (0, .ref q), (1, .int one)]) (pc := 26) hx hb dX10_newsOfOne_26 hl (k := 1) rfl (nI_add j1 1) (by decide) rfl (fun ls hl => ?_)
          refine lv_goto (tgt := 4) (pc := 29) hx hb dX10_newsOfOne_29 rfl ?_
          exact ih1 (j1 + 1) (x2_1 ||| ((1 : Int32) <<< ((nI j1) &&& 31))) (by omega) (by omega) (by rw [L1_X10_newsOfOne, ← hst1]; exact (show L1_X10_newsOfOnes kr one j1 x2_1 = x2_1 ||| ((1 : Int32) <<< ((nI j1) &&& 31)) from by rw [L1_X10_newsOfOnes, if_neg c6]).symm) _ _ _ hW (lv_sub hl [0, 1, 2, 3] rfl)
  exact loop1 (4 + 1) 0 (0 : Int32) (by omega) (by omega) rfl _ _ _ hW (lv_sub hl [0, 1, 2, 3] rfl)

def F_X10_isOpen (L : Nat → Int32) (i : Nat) (h : Int32) : Int32 := if h < L (i * 6 + 2) then ((0 : Int32)) else (if L (i * 6 + 3) < h then ((0 : Int32)) else ((1 : Int32)))
set_option maxHeartbeats 4000000 in
set_option maxRecDepth 100000 in
theorem K_X10_isOpen (l : Launch) (g : GG) (v : Nat) (v3 : Nat) (v4 : Nat) (v5 : Nat) (v6 : Nat) (v7 : Nat) (v8 : Nat) (v9 : Nat) (v10 : Nat) (v11 : Nat) (v12 : Nat) (v13 : Nat) (v15 : Nat) (pe : Int32) (lc : Int32) (de : Int32) (gl : Int32) (L : Nat → Int32) (i : Nat) (h : Int32) (hi : i < 12) : MetI l g yX10_isOpen cX10_isOpen 3 (some .boolean) 1 0 0 [.ref v, .int (nI i), .int h] [(v, .inr (10, [.int pe, .int lc, .int de, .ref v3, .ref v4, .ref v5, .ref v6, .ref v7, .ref v8, .ref v9, .ref v10, .ref v11, .ref v12, .ref v13, .int gl, .ref v15])), (v9, .inl (g.2.1 1, 72, .inl L))] (fun r u => r = (F_X10_isOpen L i h) ∧ u = [(v, .inr (10, [.int pe, .int lc, .int de, .ref v3, .ref v4, .ref v5, .ref v6, .ref v7, .ref v8, .ref v9, .ref v10, .ref v11, .ref v12, .ref v13, .int gl, .ref v15])), (v9, .inl (g.2.1 1, 72, .inl L))]) := by
  refine MetI.of (own := RX10) rfl (by decide) (Nat.le_of_ble_eq_true rfl) ?_
  intro p e s m below meth c A ls args Q hQ X hr hin hW hl
  have hx := X.1
  have hb := X.2.1
  have hl : lv_has ls 3 [(0, .ref v), (1, .int (nI i)), (2, .int h)] := hl
  refine lv_aload_n (pc := 0) hx hb dX10_isOpen_0 rfl (lv_at hl 0 rfl) ?_
  refine lv_iload_n (pc := 1) hx hb dX10_isOpen_1 rfl (lv_at hl 1 rfl) ?_
  refine lv_iconst (v := 2) (pc := 2) hx hb dX10_isOpen_2 (by decide) ?_
  refine c_Vi (pc := 3) (As := [.int (nI i), .int 2]) (rest := []) (wr := []) X hW 0 ciX10 rfl (C_X10_lineFactG l g v v3 v4 v5 v6 v7 v8 v9 v10 v11 v12 v13 v15 pe lc de gl L i 2 (by omega) (by decide)) vX10_88 [0, 1] [] rfl rfl rfl rfl rfl rfl hl.1 rfl (Nat.le_of_ble_eq_true rfl) ⟨Nat.le_of_ble_eq_true rfl, Nat.le_of_ble_eq_true rfl⟩ ⟨Nat.le_of_ble_eq_true rfl, Nat.le_of_ble_eq_true rfl⟩ dX10_isOpen_3 (fun r1 u9 H locs hq hW => ?_)
  obtain ⟨rfl, rfl⟩ := hq
  have hW : WD g A s _ _ [(v, .inr (10, [.int pe, .int lc, .int de, .ref v3, .ref v4, .ref v5, .ref v6, .ref v7, .ref v8, .ref v9, .ref v10, .ref v11, .ref v12, .ref v13, .int gl, .ref v15])), (v9, .inl (g.2.1 1, 72, .inl L))] := hW
  refine lv_iload_n (pc := 6) hx hb dX10_isOpen_6 rfl (lv_at hl 2 rfl) ?_
  refine lv_icmp_gt (tgt := 24) (pc := 7) hx hb dX10_isOpen_7 rfl (fun c2 => ?_) (fun c2 => ?_)
  · refine lv_iconst (v := 0) (pc := 24) hx hb dX10_isOpen_24 (by decide) ?_
    have hF : F_X10_isOpen L i h = (0 : Int32) := show F_X10_isOpen L i h = (0 : Int32) from by rw [F_X10_isOpen, if_pos c2]
    exact e_z (u := [(v, .inr (10, [.int pe, .int lc, .int de, .ref v3, .ref v4, .ref v5, .ref v6, .ref v7, .ref v8, .ref v9, .ref v10, .ref v11, .ref v12, .ref v13, .int gl, .ref v15])), (v9, .inl (g.2.1 1, 72, .inl L))]) X hQ hr (hW) rfl [0, 1] rfl rfl (⟨hF.symm, rfl⟩) ⟨Nat.le_of_ble_eq_true rfl, Nat.le_of_ble_eq_true rfl⟩ dX10_isOpen_25
  · refine lv_iload_n (pc := 10) hx hb dX10_isOpen_10 rfl (lv_at hl 2 rfl) ?_
    refine lv_aload_n (pc := 11) hx hb dX10_isOpen_11 rfl (lv_at hl 0 rfl) ?_
    refine lv_iload_n (pc := 12) hx hb dX10_isOpen_12 rfl (lv_at hl 1 rfl) ?_
    refine lv_iconst (v := 3) (pc := 13) hx hb dX10_isOpen_13 (by decide) ?_
    refine c_Vi (pc := 14) (As := [.int (nI i), .int 3]) (rest := [.int h]) (wr := []) X hW 0 ciX10 rfl (C_X10_lineFactG l g v v3 v4 v5 v6 v7 v8 v9 v10 v11 v12 v13 v15 pe lc de gl L i 3 (by omega) (by decide)) vX10_88 [0, 1] [] rfl rfl rfl rfl rfl rfl hl.1 rfl (Nat.le_of_ble_eq_true rfl) ⟨Nat.le_of_ble_eq_true rfl, Nat.le_of_ble_eq_true rfl⟩ ⟨Nat.le_of_ble_eq_true rfl, Nat.le_of_ble_eq_true rfl⟩ dX10_isOpen_14 (fun r5 u9 H locs hq hW => ?_)
    obtain ⟨rfl, rfl⟩ := hq
    have hW : WD g A s _ _ [(v, .inr (10, [.int pe, .int lc, .int de, .ref v3, .ref v4, .ref v5, .ref v6, .ref v7, .ref v8, .ref v9, .ref v10, .ref v11, .ref v12, .ref v13, .int gl, .ref v15])), (v9, .inl (g.2.1 1, 72, .inl L))] := hW
    refine lv_icmp_gt (tgt := 24) (pc := 17) hx hb dX10_isOpen_17 rfl (fun c6 => ?_) (fun c6 => ?_)
    · refine lv_iconst (v := 0) (pc := 24) hx hb dX10_isOpen_24 (by decide) ?_
      have hF : F_X10_isOpen L i h = (0 : Int32) := show F_X10_isOpen L i h = (0 : Int32) from by rw [F_X10_isOpen, if_neg c2, if_pos c6]
      exact e_z (u := [(v, .inr (10, [.int pe, .int lc, .int de, .ref v3, .ref v4, .ref v5, .ref v6, .ref v7, .ref v8, .ref v9, .ref v10, .ref v11, .ref v12, .ref v13, .int gl, .ref v15])), (v9, .inl (g.2.1 1, 72, .inl L))]) X hQ hr (hW) rfl [0, 1] rfl rfl (⟨hF.symm, rfl⟩) ⟨Nat.le_of_ble_eq_true rfl, Nat.le_of_ble_eq_true rfl⟩ dX10_isOpen_25
    · refine lv_iconst (v := 1) (pc := 20) hx hb dX10_isOpen_20 (by decide) ?_
      refine lv_goto (tgt := 25) (pc := 21) hx hb dX10_isOpen_21 rfl ?_
      have hF : F_X10_isOpen L i h = (1 : Int32) := show F_X10_isOpen L i h = (1 : Int32) from by rw [F_X10_isOpen, if_neg c2, if_neg c6]
      exact e_z (u := [(v, .inr (10, [.int pe, .int lc, .int de, .ref v3, .ref v4, .ref v5, .ref v6, .ref v7, .ref v8, .ref v9, .ref v10, .ref v11, .ref v12, .ref v13, .int gl, .ref v15])), (v9, .inl (g.2.1 1, 72, .inl L))]) X hQ hr (hW) rfl [0, 1] rfl rfl (⟨hF.symm, rfl⟩) ⟨Nat.le_of_ble_eq_true rfl, Nat.le_of_ble_eq_true rfl⟩ dX10_isOpen_25

def F_X10_works (L : Nat → Int32) (i : Nat) (h : Int32) : Int32 := if F_X10_isOpen L i h = 0 then ((0 : Int32)) else (if L (i * 6 + 5) = (-1) then ((1 : Int32)) else (if L (i * 6 + 5) ≤ h then ((0 : Int32)) else ((1 : Int32))))
set_option maxHeartbeats 4000000 in
set_option maxRecDepth 100000 in
theorem K_X10_works (l : Launch) (g : GG) (v : Nat) (v3 : Nat) (v4 : Nat) (v5 : Nat) (v6 : Nat) (v7 : Nat) (v8 : Nat) (v9 : Nat) (v10 : Nat) (v11 : Nat) (v12 : Nat) (v13 : Nat) (v15 : Nat) (pe : Int32) (lc : Int32) (de : Int32) (gl : Int32) (L : Nat → Int32) (i : Nat) (h : Int32) (hi : i < 12) : MetI l g yX10_works cX10_works 4 (some .boolean) 2 0 0 [.ref v, .int (nI i), .int h] [(v, .inr (10, [.int pe, .int lc, .int de, .ref v3, .ref v4, .ref v5, .ref v6, .ref v7, .ref v8, .ref v9, .ref v10, .ref v11, .ref v12, .ref v13, .int gl, .ref v15])), (v9, .inl (g.2.1 1, 72, .inl L))] (fun r u => r = (F_X10_works L i h) ∧ u = [(v, .inr (10, [.int pe, .int lc, .int de, .ref v3, .ref v4, .ref v5, .ref v6, .ref v7, .ref v8, .ref v9, .ref v10, .ref v11, .ref v12, .ref v13, .int gl, .ref v15])), (v9, .inl (g.2.1 1, 72, .inl L))]) := by
  refine MetI.of (own := RX10) rfl (by decide) (Nat.le_of_ble_eq_true rfl) ?_
  intro p e s m below meth c A ls args Q hQ X hr hin hW hl
  have hx := X.1
  have hb := X.2.1
  have hl : lv_has ls 4 [(0, .ref v), (1, .int (nI i)), (2, .int h)] := hl
  refine lv_aload_n (pc := 0) hx hb dX10_works_0 rfl (lv_at hl 0 rfl) ?_
  refine lv_iload_n (pc := 1) hx hb dX10_works_1 rfl (lv_at hl 1 rfl) ?_
  refine lv_iconst (v := 5) (pc := 2) hx hb dX10_works_2 (by decide) ?_
  refine c_Vi (pc := 3) (As := [.int (nI i), .int 5]) (rest := []) (wr := []) X hW 0 ciX10 rfl (C_X10_lineFactG l g v v3 v4 v5 v6 v7 v8 v9 v10 v11 v12 v13 v15 pe lc de gl L i 5 (by omega) (by decide)) vX10_88 [0, 1] [] rfl rfl rfl rfl rfl rfl hl.1 rfl (Nat.le_of_ble_eq_true rfl) ⟨Nat.le_of_ble_eq_true rfl, Nat.le_of_ble_eq_true rfl⟩ ⟨Nat.le_of_ble_eq_true rfl, Nat.le_of_ble_eq_true rfl⟩ dX10_works_3 (fun r1 u9 H locs hq hW => ?_)
  obtain ⟨rfl, rfl⟩ := hq
  have hW : WD g A s _ _ [(v, .inr (10, [.int pe, .int lc, .int de, .ref v3, .ref v4, .ref v5, .ref v6, .ref v7, .ref v8, .ref v9, .ref v10, .ref v11, .ref v12, .ref v13, .int gl, .ref v15])), (v9, .inl (g.2.1 1, 72, .inl L))] := hW
  refine lv_istore_n (lv' := [(3, .int (L (i * 6 + 5))), (0, .ref v), (1, .int (nI i)), (2, .int h)]) (pc := 6) hx hb dX10_works_6 rfl hl (by decide) rfl (fun ls hl => ?_)
  refine lv_aload_n (pc := 7) hx hb dX10_works_7 rfl (lv_at hl 1 rfl) ?_
  refine lv_iload_n (pc := 8) hx hb dX10_works_8 rfl (lv_at hl 2 rfl) ?_
  refine lv_iload_n (pc := 9) hx hb dX10_works_9 rfl (lv_at hl 3 rfl) ?_
  refine c_Vi (pc := 10) (As := [.int (nI i), .int h]) (rest := []) (wr := []) X hW 0 ciX10 rfl (K_X10_isOpen l g v v3 v4 v5 v6 v7 v8 v9 v10 v11 v12 v13 v15 pe lc de gl L i h (by omega)) vX10_92 [0, 1] [] rfl rfl rfl rfl rfl rfl hl.1 rfl (Nat.le_of_ble_eq_true rfl) ⟨Nat.le_of_ble_eq_true rfl, Nat.le_of_ble_eq_true rfl⟩ ⟨Nat.le_of_ble_eq_true rfl, Nat.le_of_ble_eq_true rfl⟩ dX10_works_10 (fun r2 u9 H locs hq hW => ?_)
  obtain ⟨rfl, rfl⟩ := hq
  have hW : WD g A s _ _ [(v, .inr (10, [.int pe, .int lc, .int de, .ref v3, .ref v4, .ref v5, .ref v6, .ref v7, .ref v8, .ref v9, .ref v10, .ref v11, .ref v12, .ref v13, .int gl, .ref v15])), (v9, .inl (g.2.1 1, 72, .inl L))] := hW
  refine lv_if_eq (tgt := 30) (pc := 13) hx hb dX10_works_13 rfl (fun c3 => ?_) (fun c3 => ?_)
  · refine lv_iconst (v := 0) (pc := 30) hx hb dX10_works_30 (by decide) ?_
    have hF : F_X10_works L i h = (0 : Int32) := show F_X10_works L i h = (0 : Int32) from by rw [F_X10_works, if_pos c3]
    exact e_z (u := [(v, .inr (10, [.int pe, .int lc, .int de, .ref v3, .ref v4, .ref v5, .ref v6, .ref v7, .ref v8, .ref v9, .ref v10, .ref v11, .ref v12, .ref v13, .int gl, .ref v15])), (v9, .inl (g.2.1 1, 72, .inl L))]) X hQ hr (hW) rfl [0, 1] rfl rfl (⟨hF.symm, rfl⟩) ⟨Nat.le_of_ble_eq_true rfl, Nat.le_of_ble_eq_true rfl⟩ dX10_works_31
  · refine lv_iload_n (pc := 16) hx hb dX10_works_16 rfl (lv_at hl 0 rfl) ?_
    refine lv_iconst (v := (-1)) (pc := 17) hx hb dX10_works_17 (by decide) ?_
    refine lv_icmp_eq (tgt := 26) (pc := 18) hx hb dX10_works_18 rfl (fun c6 => ?_) (fun c6 => ?_)
    · refine lv_iconst (v := 1) (pc := 26) hx hb dX10_works_26 (by decide) ?_
      refine lv_goto (tgt := 31) (pc := 27) hx hb dX10_works_27 rfl ?_
      have hF : F_X10_works L i h = (1 : Int32) := show F_X10_works L i h = (1 : Int32) from by rw [F_X10_works, if_neg c3, if_pos c6]
      exact e_z (u := [(v, .inr (10, [.int pe, .int lc, .int de, .ref v3, .ref v4, .ref v5, .ref v6, .ref v7, .ref v8, .ref v9, .ref v10, .ref v11, .ref v12, .ref v13, .int gl, .ref v15])), (v9, .inl (g.2.1 1, 72, .inl L))]) X hQ hr (hW) rfl [0, 1] rfl rfl (⟨hF.symm, rfl⟩) ⟨Nat.le_of_ble_eq_true rfl, Nat.le_of_ble_eq_true rfl⟩ dX10_works_31
    · refine lv_iload_n (pc := 21) hx hb dX10_works_21 rfl (lv_at hl 3 rfl) ?_
      refine lv_iload_n (pc := 22) hx hb dX10_works_22 rfl (lv_at hl 0 rfl) ?_
      refine lv_icmp_ge (tgt := 30) (pc := 23) hx hb dX10_works_23 rfl (fun c9 => ?_) (fun c9 => ?_)
      · refine lv_iconst (v := 0) (pc := 30) hx hb dX10_works_30 (by decide) ?_
        have hF : F_X10_works L i h = (0 : Int32) := show F_X10_works L i h = (0 : Int32) from by rw [F_X10_works, if_neg c3, if_neg c6, if_pos c9]
        exact e_z (u := [(v, .inr (10, [.int pe, .int lc, .int de, .ref v3, .ref v4, .ref v5, .ref v6, .ref v7, .ref v8, .ref v9, .ref v10, .ref v11, .ref v12, .ref v13, .int gl, .ref v15])), (v9, .inl (g.2.1 1, 72, .inl L))]) X hQ hr (hW) rfl [0, 1] rfl rfl (⟨hF.symm, rfl⟩) ⟨Nat.le_of_ble_eq_true rfl, Nat.le_of_ble_eq_true rfl⟩ dX10_works_31
      · refine lv_iconst (v := 1) (pc := 26) hx hb dX10_works_26 (by decide) ?_
        refine lv_goto (tgt := 31) (pc := 27) hx hb dX10_works_27 rfl ?_
        have hF : F_X10_works L i h = (1 : Int32) := show F_X10_works L i h = (1 : Int32) from by rw [F_X10_works, if_neg c3, if_neg c6, if_neg c9]
        exact e_z (u := [(v, .inr (10, [.int pe, .int lc, .int de, .ref v3, .ref v4, .ref v5, .ref v6, .ref v7, .ref v8, .ref v9, .ref v10, .ref v11, .ref v12, .ref v13, .int gl, .ref v15])), (v9, .inl (g.2.1 1, 72, .inl L))]) X hQ hr (hW) rfl [0, 1] rfl rfl (⟨hF.symm, rfl⟩) ⟨Nat.le_of_ble_eq_true rfl, Nat.le_of_ble_eq_true rfl⟩ dX10_works_31

def L2_X10_lookAtLiness (L : Nat → Int32) (j1 : Nat) (j2 : Nat) (fv10_2 : Nat → Int32) : (Nat → Int32) := if F_X10_works L j1 (nI (j2 + 1)) = 0 then (fv10_2) else (if b1 (L (j1 * 6 + 4)) = 0 then ((upd (upd fv10_2 ((j2 + 1) * 7 + lnA L j1) ((fv10_2 ((j2 + 1) * 7 + lnA L j1)) ||| ((1 : Int32) <<< ((nI (lnB L j1)) &&& 31)))) ((j2 + 1) * 7 + lnB L j1) (((upd fv10_2 ((j2 + 1) * 7 + lnA L j1) ((fv10_2 ((j2 + 1) * 7 + lnA L j1)) ||| ((1 : Int32) <<< ((nI (lnB L j1)) &&& 31)))) ((j2 + 1) * 7 + lnB L j1)) ||| ((1 : Int32) <<< ((nI (lnA L j1)) &&& 31))))) else ((upd fv10_2 ((j2 + 1) * 7 + lnA L j1) ((fv10_2 ((j2 + 1) * 7 + lnA L j1)) ||| ((1 : Int32) <<< ((nI (lnB L j1)) &&& 31))))))
def L2_X10_lookAtLines (L : Nat → Int32) (j1 : Nat) (i0_ : Nat → Int32) : Nat → (Nat → Int32)
  | 0 => (i0_)
  | k_ + 1 => L2_X10_lookAtLiness L j1 k_ (L2_X10_lookAtLines L j1 i0_ k_)
def L1_X10_lookAtLiness (L : Nat → Int32) (j1 : Nat) (fv10_1 : Nat → Int32) : (Nat → Int32) := (L2_X10_lookAtLines L j1 fv10_1 24)
def L1_X10_lookAtLines (L : Nat → Int32) (i0_ : Nat → Int32) : Nat → (Nat → Int32)
  | 0 => (i0_)
  | k_ + 1 => L1_X10_lookAtLiness L k_ (L1_X10_lookAtLines L i0_ k_)
def F_X10_lookAtLines (lc : Nat) (L : Nat → Int32) : (Nat → Int32) := (L1_X10_lookAtLines L (fun _ => 0) lc)
set_option maxHeartbeats 4000000 in
set_option maxRecDepth 100000 in
theorem K_X10_lookAtLines (l : Launch) (g : GG) (v : Nat) (v3 : Nat) (v4 : Nat) (v5 : Nat) (v6 : Nat) (v7 : Nat) (v8 : Nat) (v9 : Nat) (v10 : Nat) (v11 : Nat) (v12 : Nat) (v13 : Nat) (v15 : Nat) (pe : Int32) (lc : Nat) (de : Int32) (gl : Int32) (L : Nat → Int32) (K : Nat → Int32) (pp : Nat) (hlc : lc ≤ 12) (hpp : pp ≤ 7) (hL : endsIn L lc pp) : MetV l g yX10_lookAtLines cX10_lookAtLines 5 none 3 0 0 [.ref v] [(v, .inr (10, [.int pe, .int (nI lc), .int de, .ref v3, .ref v4, .ref v5, .ref v6, .ref v7, .ref v8, .ref v9, .ref v10, .ref v11, .ref v12, .ref v13, .int gl, .ref v15])), (v9, .inl (g.2.1 1, 72, .inl L)), (v10, .inl (g.2.1 1, 175, .inl K))] (fun u => u = [(v, .inr (10, [.int pe, .int (nI lc), .int de, .ref v3, .ref v4, .ref v5, .ref v6, .ref v7, .ref v8, .ref v9, .ref v10, .ref v11, .ref v12, .ref v13, .int gl, .ref v15])), (v9, .inl (g.2.1 1, 72, .inl L)), (v10, .inl (g.2.1 1, 175, .inl (F_X10_lookAtLines lc L)))]) := by
  refine MetV.of (own := RX10) rfl (by decide) (Nat.le_of_ble_eq_true rfl) ?_
  intro p e s m below meth c A ls args Q hQ X hr hin hW hl
  have hx := X.1
  have hb := X.2.1
  have hl : lv_has ls 5 [(0, .ref v)] := hl
  refine lv_aload_n (pc := 0) hx hb dX10_lookAtLines_0 rfl (lv_at hl 0 rfl) ?_
  refine r_get X hW 0 ciX10 10 rfl (by decide) m_311 rfl rfl dX10_lookAtLines_1 ?_
  refine lv_iconst (v := 0) (pc := 4) hx hb dX10_lookAtLines_4 (by decide) ?_
  refine c_Sv (pc := 5) (As := [.ref v10, .int 0]) (rest := []) (wr := [(v, .inr (10, [.int pe, .int (nI lc), .int de, .ref v3, .ref v4, .ref v5, .ref v6, .ref v7, .ref v8, .ref v9, .ref v10, .ref v11, .ref v12, .ref v13, .int gl, .ref v15])), (v9, .inl (g.2.1 1, 72, .inl L))]) X hW (C_J7_fillE l g v10 175 K 0 (by decide)) vX10_63 [2] [0, 1] rfl rfl rfl rfl rfl rfl hl.1 rfl (Nat.le_of_ble_eq_true rfl) ⟨Nat.le_of_ble_eq_true rfl, Nat.le_of_ble_eq_true rfl⟩ ⟨Nat.le_of_ble_eq_true rfl, Nat.le_of_ble_eq_true rfl⟩ dX10_lookAtLines_5 (fun u9 H locs hq hW => ?_)
  obtain rfl := hq
  have hW : WD g A s _ _ [(v, .inr (10, [.int pe, .int (nI lc), .int de, .ref v3, .ref v4, .ref v5, .ref v6, .ref v7, .ref v8, .ref v9, .ref v10, .ref v11, .ref v12, .ref v13, .int gl, .ref v15])), (v9, .inl (g.2.1 1, 72, .inl L)), (v10, .inl (g.2.1 1, 175, .inl (fun _ => 0)))] := hW
  refine lv_iconst (v := 0) (pc := 8) hx hb dX10_lookAtLines_8 (by decide) ?_
  refine lv_istore_n (lv' := [(1, .int 0), (0, .ref v)]) (pc := 9) hx hb dX10_lookAtLines_9 rfl hl (by decide) rfl (fun ls hl => ?_)
  have loop1 : ∀ (fu1 : Nat) (j1 : Nat) (fv10_1 : Nat → Int32), (lc < fu1 + j1) → (j1 ≤ lc) → (fv10_1 = L1_X10_lookAtLines L (fun _ => 0) j1) → ∀ (H : Heap) (locs : List Loc) (ls : Array Slot), WD g A s H locs [(v, .inr (10, [.int pe, .int (nI lc), .int de, .ref v3, .ref v4, .ref v5, .ref v6, .ref v7, .ref v8, .ref v9, .ref v10, .ref v11, .ref v12, .ref v13, .int gl, .ref v15])), (v9, .inl (g.2.1 1, 72, .inl L)), (v10, .inl (g.2.1 1, 175, .inl fv10_1))] → lv_has ls 5 [(1, .int (nI j1)), (0, .ref v)] → W p l e (RM 3 0 0) s m args below meth c H locs 0 0 Q (F0 m 10 ls []) := by
    intro fu1
    induction fu1 with
    | zero =>
      intro j1 fv10_1 hm1 hj1 hst1
      exact absurd hm1 (by omega)
    | succ fu1 ih1 =>
      intro j1 fv10_1 hm1 hj1 hst1 H locs ls hW hl
      refine lv_iload_n (pc := 10) hx hb dX10_lookAtLines_10 rfl (lv_at hl 0 rfl) ?_
      refine lv_aload_n (pc := 11) hx hb dX10_lookAtLines_11 rfl (lv_at hl 1 rfl) ?_
      refine r_get X hW 0 ciX10 1 rfl (by decide) m_280 rfl rfl dX10_lookAtLines_12 ?_
      refine lv_icmp_ge (tgt := 106) (pc := 15) hx hb dX10_lookAtLines_15 rfl (fun c1 => ?_) (fun c1 => ?_)
      · have h2 : lc ≤ j1 := (nI_leI (a := lc) (b := j1) (by omega) (by omega)).mp c1
        have hN1 : j1 = lc := by omega
        rw [hN1] at hst1
        subst hst1
        have hW : WD g A s _ _ [(v, .inr (10, [.int pe, .int (nI lc), .int de, .ref v3, .ref v4, .ref v5, .ref v6, .ref v7, .ref v8, .ref v9, .ref v10, .ref v11, .ref v12, .ref v13, .int gl, .ref v15])), (v9, .inl (g.2.1 1, 72, .inl L)), (v10, .inl (g.2.1 1, 175, .inl (L1_X10_lookAtLines L (fun _ => 0) lc)))] := hW
        have hF : F_X10_lookAtLines lc L = (L1_X10_lookAtLines L (fun _ => 0) lc) := show F_X10_lookAtLines lc L = (L1_X10_lookAtLines L (fun _ => 0) lc) from rfl
        exact e_v (u := [(v, .inr (10, [.int pe, .int (nI lc), .int de, .ref v3, .ref v4, .ref v5, .ref v6, .ref v7, .ref v8, .ref v9, .ref v10, .ref v11, .ref v12, .ref v13, .int gl, .ref v15])), (v9, .inl (g.2.1 1, 72, .inl L)), (v10, .inl (g.2.1 1, 175, .inl (L1_X10_lookAtLines L (fun _ => 0) lc)))]) X hQ hr (hW) [0, 1, 2] rfl rfl (by rw [hF]) ⟨Nat.le_of_ble_eq_true rfl, Nat.le_of_ble_eq_true rfl⟩ dX10_lookAtLines_106
      · have h3 : ¬ (lc ≤ j1) := fun q => c1 ((nI_leI (a := lc) (b := j1) (by omega) (by omega)).mpr q)
        refine lv_aload_n (pc := 18) hx hb dX10_lookAtLines_18 rfl (lv_at hl 1 rfl) ?_
        refine lv_iload_n (pc := 19) hx hb dX10_lookAtLines_19 rfl (lv_at hl 0 rfl) ?_
        refine c_Vi (pc := 20) (As := [.int (nI j1)]) (rest := []) (wr := [(v10, .inl (g.2.1 1, 175, .inl fv10_1))]) X hW 0 ciX10 rfl (C_X10_lineAG l g v v3 v4 v5 v6 v7 v8 v9 v10 v11 v12 v13 v15 pe (nI lc) de gl L j1 (by omega)) vX10_95 [0, 1] [2] rfl rfl rfl rfl rfl rfl hl.1 rfl (Nat.le_of_ble_eq_true rfl) ⟨Nat.le_of_ble_eq_true rfl, Nat.le_of_ble_eq_true rfl⟩ ⟨Nat.le_of_ble_eq_true rfl, Nat.le_of_ble_eq_true rfl⟩ dX10_lookAtLines_20 (fun r4 u9 H locs hq hW => ?_)
        obtain ⟨rfl, rfl⟩ := hq
        have hW : WD g A s _ _ [(v10, .inl (g.2.1 1, 175, .inl fv10_1)), (v, .inr (10, [.int pe, .int (nI lc), .int de, .ref v3, .ref v4, .ref v5, .ref v6, .ref v7, .ref v8, .ref v9, .ref v10, .ref v11, .ref v12, .ref v13, .int gl, .ref v15])), (v9, .inl (g.2.1 1, 72, .inl L))] := hW
        obtain ⟨ea0, eb0, la0, lb0⟩ := ends_at hL hpp (show j1 < lc by omega)
        rw [ea0]
        refine lv_istore_n (lv' := [(2, .int (nI (lnA L j1))), (1, .int (nI j1)), (0, .ref v)]) (pc := 23) hx hb dX10_lookAtLines_23 rfl hl (by decide) rfl (fun ls hl => ?_)
        refine lv_aload_n (pc := 24) hx hb dX10_lookAtLines_24 rfl (lv_at hl 2 rfl) ?_
        refine lv_iload_n (pc := 25) hx hb dX10_lookAtLines_25 rfl (lv_at hl 1 rfl) ?_
        refine c_Vi (pc := 26) (As := [.int (nI j1)]) (rest := []) (wr := [(v10, .inl (g.2.1 1, 175, .inl fv10_1))]) X hW 1 ciX10 rfl (C_X10_lineBG l g v v3 v4 v5 v6 v7 v8 v9 v10 v11 v12 v13 v15 pe (nI lc) de gl L j1 (by omega)) vX10_99 [1, 2] [0] rfl rfl rfl rfl rfl rfl hl.1 rfl (Nat.le_of_ble_eq_true rfl) ⟨Nat.le_of_ble_eq_true rfl, Nat.le_of_ble_eq_true rfl⟩ ⟨Nat.le_of_ble_eq_true rfl, Nat.le_of_ble_eq_true rfl⟩ dX10_lookAtLines_26 (fun r5 u9 H locs hq hW => ?_)
        obtain ⟨rfl, rfl⟩ := hq
        have hW : WD g A s _ _ [(v10, .inl (g.2.1 1, 175, .inl fv10_1)), (v, .inr (10, [.int pe, .int (nI lc), .int de, .ref v3, .ref v4, .ref v5, .ref v6, .ref v7, .ref v8, .ref v9, .ref v10, .ref v11, .ref v12, .ref v13, .int gl, .ref v15])), (v9, .inl (g.2.1 1, 72, .inl L))] := hW
        rw [eb0]
        refine lv_istore_n (lv' := [(3, .int (nI (lnB L j1))), (2, .int (nI (lnA L j1))), (1, .int (nI j1)), (0, .ref v)]) (pc := 29) hx hb dX10_lookAtLines_29 rfl hl (by decide) rfl (fun ls hl => ?_)
        refine lv_iconst (v := 1) (pc := 30) hx hb dX10_lookAtLines_30 (by decide) ?_
        refine lv_istore (lv' := [(4, .int 1), (3, .int (nI (lnB L j1))), (2, .int (nI (lnA L j1))), (1, .int (nI j1)), (0, .ref v)]) (pc := 31) hx hb dX10_lookAtLines_31 hl (by decide) rfl (fun ls hl => ?_)
        have loop2 : ∀ (fu2 : Nat) (j2 : Nat) (fv10_2 : Nat → Int32), (24 < fu2 + j2) → (j2 ≤ 24) → (fv10_2 = L2_X10_lookAtLines L j1 fv10_1 j2) → ∀ (H : Heap) (locs : List Loc) (ls : Array Slot), WD g A s H locs [(v10, .inl (g.2.1 1, 175, .inl fv10_2)), (v, .inr (10, [.int pe, .int (nI lc), .int de, .ref v3, .ref v4, .ref v5, .ref v6, .ref v7, .ref v8, .ref v9, .ref v10, .ref v11, .ref v12, .ref v13, .int gl, .ref v15])), (v9, .inl (g.2.1 1, 72, .inl L))] → lv_has ls 5 [(4, .int (nI (j2 + 1))), (3, .int (nI (lnB L j1))), (2, .int (nI (lnA L j1))), (1, .int (nI j1)), (0, .ref v)] → W p l e (RM 3 0 0) s m args below meth c H locs 0 0 Q (F0 m 33 ls []) := by
          intro fu2
          induction fu2 with
          | zero =>
            intro j2 fv10_2 hm2 hj2 hst2
            exact absurd hm2 (by omega)
          | succ fu2 ih2 =>
            intro j2 fv10_2 hm2 hj2 hst2 H locs ls hW hl
            refine lv_iload (pc := 33) hx hb dX10_lookAtLines_33 (lv_at hl 0 rfl) ?_
            refine lv_bipush (v := 24) (pc := 35) hx hb dX10_lookAtLines_35 (by decide) ?_
            refine lv_icmp_gt (tgt := 100) (pc := 37) hx hb dX10_lookAtLines_37 rfl (fun c6 => ?_) (fun c6 => ?_)
            · have h7 : 24 < (j2 + 1) := (nI_ltI (a := 24) (b := (j2 + 1)) (by omega) (by omega)).mp c6
              have hN2 : j2 = 24 := by omega
              rw [hN2] at hst2
              subst hst2
              have hW : WD g A s _ _ [(v10, .inl (g.2.1 1, 175, .inl (L2_X10_lookAtLines L j1 fv10_1 24))), (v, .inr (10, [.int pe, .int (nI lc), .int de, .ref v3, .ref v4, .ref v5, .ref v6, .ref v7, .ref v8, .ref v9, .ref v10, .ref v11, .ref v12, .ref v13, .int gl, .ref v15])), (v9, .inl (g.2.1 1, 72, .inl L))] := hW
              refine lv_iinc (v := nI (j1 + 1)) (lv' := [(1, .int (nI (j1 + 1))), (4, .int (nI (j2 + 1))), (3, .int (nI (lnB L j1))), (2, .int (nI (lnA L j1))), (0, .ref v)]) (pc := 100) hx hb dX10_lookAtLines_100 hl (k := 3) rfl (nI_add j1 1) (by decide) rfl (fun ls hl => ?_)
              refine lv_goto (tgt := 10) (pc := 103) hx hb dX10_lookAtLines_103 rfl ?_
              have hW : WD g A s _ _ [(v, .inr (10, [.int pe, .int (nI lc), .int de, .ref v3, .ref v4, .ref v5, .ref v6, .ref v7, .ref v8, .ref v9, .ref v10, .ref v11, .ref v12, .ref v13, .int gl, .ref v15])), (v9, .inl (g.2.1 1, 72, .inl L)), (v10, .inl (g.2.1 1, 175, .inl (L2_X10_lookAtLines L j1 fv10_1 24)))] := hW.pick [1, 2, 0] rfl rfl
              exact ih1 (j1 + 1) (L2_X10_lookAtLines L j1 fv10_1 24) (by omega) (by omega) (by rw [L1_X10_lookAtLines, ← hst1]; exact (show L1_X10_lookAtLiness L j1 fv10_1 = (L2_X10_lookAtLines L j1 fv10_1 24) from rfl).symm) _ _ _ hW (lv_sub hl [0, 4] rfl)
            · have h8 : ¬ (24 < (j2 + 1)) := fun q => c6 ((nI_ltI (a := 24) (b := (j2 + 1)) (by omega) (by omega)).mpr q)
              refine lv_aload_n (pc := 40) hx hb dX10_lookAtLines_40 rfl (lv_at hl 4 rfl) ?_
              refine lv_iload_n (pc := 41) hx hb dX10_lookAtLines_41 rfl (lv_at hl 3 rfl) ?_
              refine lv_iload (pc := 42) hx hb dX10_lookAtLines_42 (lv_at hl 0 rfl) ?_
              refine c_Vi (pc := 44) (As := [.int (nI j1), .int (nI (j2 + 1))]) (rest := []) (wr := [(v10, .inl (g.2.1 1, 175, .inl fv10_2))]) X hW 1 ciX10 rfl (K_X10_works l g v v3 v4 v5 v6 v7 v8 v9 v10 v11 v12 v13 v15 pe (nI lc) de gl L j1 (nI (j2 + 1)) (by omega)) vX10_102 [1, 2] [0] rfl rfl rfl rfl rfl rfl hl.1 rfl (Nat.le_of_ble_eq_true rfl) ⟨Nat.le_of_ble_eq_true rfl, Nat.le_of_ble_eq_true rfl⟩ ⟨Nat.le_of_ble_eq_true rfl, Nat.le_of_ble_eq_true rfl⟩ dX10_lookAtLines_44 (fun r9 u9 H locs hq hW => ?_)
              obtain ⟨rfl, rfl⟩ := hq
              have hW : WD g A s _ _ [(v10, .inl (g.2.1 1, 175, .inl fv10_2)), (v, .inr (10, [.int pe, .int (nI lc), .int de, .ref v3, .ref v4, .ref v5, .ref v6, .ref v7, .ref v8, .ref v9, .ref v10, .ref v11, .ref v12, .ref v13, .int gl, .ref v15])), (v9, .inl (g.2.1 1, 72, .inl L))] := hW
              refine lv_if_eq (tgt := 94) (pc := 47) hx hb dX10_lookAtLines_47 rfl (fun c10 => ?_) (fun c10 => ?_)
              · refine lv_iinc (v := nI (j2 + 1 + 1)) (lv' := [(4, .int (nI (j2 + 1 + 1))), (3, .int (nI (lnB L j1))), (2, .int (nI (lnA L j1))), (1, .int (nI j1)), (0, .ref v)]) (pc := 94) hx hb dX10_lookAtLines_94 hl (k := 0) rfl (nI_add (j2 + 1) 1) (by decide) rfl (fun ls hl => ?_)
                refine lv_goto (tgt := 33) (pc := 97) hx hb dX10_lookAtLines_97 rfl ?_
                exact ih2 (j2 + 1) fv10_2 (by omega) (by omega) (by rw [L2_X10_lookAtLines, ← hst2]; exact (show L2_X10_lookAtLiness L j1 j2 fv10_2 = fv10_2 from by rw [L2_X10_lookAtLiness, if_pos c10]).symm) _ _ _ hW (lv_sub hl [0, 1, 2, 3, 4] rfl)
              · refine lv_aload_n (pc := 50) hx hb dX10_lookAtLines_50 rfl (lv_at hl 4 rfl) ?_
                refine r_get X hW 1 ciX10 10 rfl (by decide) m_311 rfl rfl dX10_lookAtLines_51 ?_
                refine lv_iload (pc := 54) hx hb dX10_lookAtLines_54 (lv_at hl 0 rfl) ?_
                refine lv_bipush (v := 7) (pc := 56) hx hb dX10_lookAtLines_56 (by decide) ?_
                refine lv_imul (pc := 58) hx hb dX10_lookAtLines_58 ?_
                refine lv_topi (fun v13 ev13 => ?_)
                obtain rfl : v13 = nI ((j2 + 1) * 7) := ev13.trans (pk_mul (j2 + 1) 7)
                refine lv_iload_n (pc := 59) hx hb dX10_lookAtLines_59 rfl (lv_at hl 2 rfl) ?_
                refine lv_iadd (pc := 60) hx hb dX10_lookAtLines_60 ?_
                refine lv_topi (fun v14 ev14 => ?_)
                obtain rfl : v14 = nI ((j2 + 1) * 7 + lnA L j1) := ev14.trans (nI_add _ _)
                refine lv_dup2_11 (pc := 61) hx hb dX10_lookAtLines_61 rfl rfl ?_
                refine r_iald X hW 0 rfl (vp_in_nI (by omega) (by decide)) dX10_lookAtLines_62 ?_
                refine lv_topi (fun v15 ev15 => ?_)
                obtain rfl : v15 = fv10_2 ((j2 + 1) * 7 + lnA L j1) := ev15.trans (by rw [nI_clamp (by omega)])
                refine lv_iconst (v := 1) (pc := 63) hx hb dX10_lookAtLines_63 (by decide) ?_
                refine lv_iload_n (pc := 64) hx hb dX10_lookAtLines_64 rfl (lv_at hl 1 rfl) ?_
                refine lv_ishl (pc := 65) hx hb dX10_lookAtLines_65 ?_
                refine lv_ior (pc := 66) hx hb dX10_lookAtLines_66 ?_
                refine r_iast (ws' := [(v10, .inl (g.2.1 1, 175, .inl (upd fv10_2 ((j2 + 1) * 7 + lnA L j1) ((fv10_2 ((j2 + 1) * 7 + lnA L j1)) ||| ((1 : Int32) <<< ((nI (lnB L j1)) &&& 31)))))), (v, .inr (10, [.int pe, .int (nI lc), .int de, .ref v3, .ref v4, .ref v5, .ref v6, .ref v7, .ref v8, .ref v9, .ref v10, .ref v11, .ref v12, .ref v13, .int gl, .ref v15])), (v9, .inl (g.2.1 1, 72, .inl L))]) X hW 0 rfl (vp_in_nI (by omega) (by decide)) (f' := (upd fv10_2 ((j2 + 1) * 7 + lnA L j1) ((fv10_2 ((j2 + 1) * 7 + lnA L j1)) ||| ((1 : Int32) <<< ((nI (lnB L j1)) &&& 31))))) (by rw [nI_clamp (by omega)]) rfl dX10_lookAtLines_67 (fun H locs hW => ?_)
                refine lv_aload_n (pc := 68) hx hb dX10_lookAtLines_68 rfl (lv_at hl 4 rfl) ?_
                refine lv_iload_n (pc := 69) hx hb dX10_lookAtLines_69 rfl (lv_at hl 3 rfl) ?_
                refine c_Vi (pc := 70) (As := [.int (nI j1)]) (rest := []) (wr := [(v10, .inl (g.2.1 1, 175, .inl (upd fv10_2 ((j2 + 1) * 7 + lnA L j1) ((fv10_2 ((j2 + 1) * 7 + lnA L j1)) ||| ((1 : Int32) <<< ((nI (lnB L j1)) &&& 31))))))]) X hW 1 ciX10 rfl (C_X10_isOneWayG l g v v3 v4 v5 v6 v7 v8 v9 v10 v11 v12 v13 v15 pe (nI lc) de gl L j1 (by omega)) vX10_105 [1, 2] [0] rfl rfl rfl rfl rfl rfl hl.1 rfl (Nat.le_of_ble_eq_true rfl) ⟨Nat.le_of_ble_eq_true rfl, Nat.le_of_ble_eq_true rfl⟩ ⟨Nat.le_of_ble_eq_true rfl, Nat.le_of_ble_eq_true rfl⟩ dX10_lookAtLines_70 (fun r16 u9 H locs hq hW => ?_)
                obtain ⟨rfl, rfl⟩ := hq
                have hW : WD g A s _ _ [(v10, .inl (g.2.1 1, 175, .inl (upd fv10_2 ((j2 + 1) * 7 + lnA L j1) ((fv10_2 ((j2 + 1) * 7 + lnA L j1)) ||| ((1 : Int32) <<< ((nI (lnB L j1)) &&& 31)))))), (v, .inr (10, [.int pe, .int (nI lc), .int de, .ref v3, .ref v4, .ref v5, .ref v6, .ref v7, .ref v8, .ref v9, .ref v10, .ref v11, .ref v12, .ref v13, .int gl, .ref v15])), (v9, .inl (g.2.1 1, 72, .inl L))] := hW
                refine lv_if_ne (tgt := 94) (pc := 73) hx hb dX10_lookAtLines_73 rfl (fun c17 => ?_) (fun c17 => ?_)
                · refine lv_iinc (v := nI (j2 + 1 + 1)) (lv' := [(4, .int (nI (j2 + 1 + 1))), (3, .int (nI (lnB L j1))), (2, .int (nI (lnA L j1))), (1, .int (nI j1)), (0, .ref v)]) (pc := 94) hx hb dX10_lookAtLines_94 hl (k := 0) rfl (nI_add (j2 + 1) 1) (by decide) rfl (fun ls hl => ?_)
                  refine lv_goto (tgt := 33) (pc := 97) hx hb dX10_lookAtLines_97 rfl ?_
                  exact ih2 (j2 + 1) (upd fv10_2 ((j2 + 1) * 7 + lnA L j1) ((fv10_2 ((j2 + 1) * 7 + lnA L j1)) ||| ((1 : Int32) <<< ((nI (lnB L j1)) &&& 31)))) (by omega) (by omega) (by rw [L2_X10_lookAtLines, ← hst2]; exact (show L2_X10_lookAtLiness L j1 j2 fv10_2 = (upd fv10_2 ((j2 + 1) * 7 + lnA L j1) ((fv10_2 ((j2 + 1) * 7 + lnA L j1)) ||| ((1 : Int32) <<< ((nI (lnB L j1)) &&& 31)))) from by rw [L2_X10_lookAtLiness, if_neg c10, if_neg c17]).symm) _ _ _ hW (lv_sub hl [0, 1, 2, 3, 4] rfl)
                · refine lv_aload_n (pc := 76) hx hb dX10_lookAtLines_76 rfl (lv_at hl 4 rfl) ?_
                  refine r_get X hW 1 ciX10 10 rfl (by decide) m_311 rfl rfl dX10_lookAtLines_77 ?_
                  refine lv_iload (pc := 80) hx hb dX10_lookAtLines_80 (lv_at hl 0 rfl) ?_
                  refine lv_bipush (v := 7) (pc := 82) hx hb dX10_lookAtLines_82 (by decide) ?_
                  refine lv_imul (pc := 84) hx hb dX10_lookAtLines_84 ?_
                  refine lv_topi (fun v20 ev20 => ?_)
                  obtain rfl : v20 = nI ((j2 + 1) * 7) := ev20.trans (pk_mul (j2 + 1) 7)
                  refine lv_iload_n (pc := 85) hx hb dX10_lookAtLines_85 rfl (lv_at hl 1 rfl) ?_
                  refine lv_iadd (pc := 86) hx hb dX10_lookAtLines_86 ?_
                  refine lv_topi (fun v21 ev21 => ?_)
                  obtain rfl : v21 = nI ((j2 + 1) * 7 + lnB L j1) := ev21.trans (nI_add _ _)
                  refine lv_dup2_11 (pc := 87) hx hb dX10_lookAtLines_87 rfl rfl ?_
                  refine r_iald X hW 0 rfl (vp_in_nI (by omega) (by decide)) dX10_lookAtLines_88 ?_
                  refine lv_topi (fun v22 ev22 => ?_)
                  obtain rfl : v22 = (upd fv10_2 ((j2 + 1) * 7 + lnA L j1) ((fv10_2 ((j2 + 1) * 7 + lnA L j1)) ||| ((1 : Int32) <<< ((nI (lnB L j1)) &&& 31)))) ((j2 + 1) * 7 + lnB L j1) := ev22.trans (by rw [nI_clamp (by omega)])
                  refine lv_iconst (v := 1) (pc := 89) hx hb dX10_lookAtLines_89 (by decide) ?_
                  refine lv_iload_n (pc := 90) hx hb dX10_lookAtLines_90 rfl (lv_at hl 2 rfl) ?_
                  refine lv_ishl (pc := 91) hx hb dX10_lookAtLines_91 ?_
                  refine lv_ior (pc := 92) hx hb dX10_lookAtLines_92 ?_
                  refine r_iast (ws' := [(v10, .inl (g.2.1 1, 175, .inl (upd (upd fv10_2 ((j2 + 1) * 7 + lnA L j1) ((fv10_2 ((j2 + 1) * 7 + lnA L j1)) ||| ((1 : Int32) <<< ((nI (lnB L j1)) &&& 31)))) ((j2 + 1) * 7 + lnB L j1) (((upd fv10_2 ((j2 + 1) * 7 + lnA L j1) ((fv10_2 ((j2 + 1) * 7 + lnA L j1)) ||| ((1 : Int32) <<< ((nI (lnB L j1)) &&& 31)))) ((j2 + 1) * 7 + lnB L j1)) ||| ((1 : Int32) <<< ((nI (lnA L j1)) &&& 31)))))), (v, .inr (10, [.int pe, .int (nI lc), .int de, .ref v3, .ref v4, .ref v5, .ref v6, .ref v7, .ref v8, .ref v9, .ref v10, .ref v11, .ref v12, .ref v13, .int gl, .ref v15])), (v9, .inl (g.2.1 1, 72, .inl L))]) X hW 0 rfl (vp_in_nI (by omega) (by decide)) (f' := (upd (upd fv10_2 ((j2 + 1) * 7 + lnA L j1) ((fv10_2 ((j2 + 1) * 7 + lnA L j1)) ||| ((1 : Int32) <<< ((nI (lnB L j1)) &&& 31)))) ((j2 + 1) * 7 + lnB L j1) (((upd fv10_2 ((j2 + 1) * 7 + lnA L j1) ((fv10_2 ((j2 + 1) * 7 + lnA L j1)) ||| ((1 : Int32) <<< ((nI (lnB L j1)) &&& 31)))) ((j2 + 1) * 7 + lnB L j1)) ||| ((1 : Int32) <<< ((nI (lnA L j1)) &&& 31))))) (by rw [nI_clamp (by omega)]) rfl dX10_lookAtLines_93 (fun H locs hW => ?_)
                  refine lv_iinc (v := nI (j2 + 1 + 1)) (lv' := [(4, .int (nI (j2 + 1 + 1))), (3, .int (nI (lnB L j1))), (2, .int (nI (lnA L j1))), (1, .int (nI j1)), (0, .ref v)]) (pc := 94) hx hb dX10_lookAtLines_94 hl (k := 0) rfl (nI_add (j2 + 1) 1) (by decide) rfl (fun ls hl => ?_)
                  refine lv_goto (tgt := 33) (pc := 97) hx hb dX10_lookAtLines_97 rfl ?_
                  exact ih2 (j2 + 1) (upd (upd fv10_2 ((j2 + 1) * 7 + lnA L j1) ((fv10_2 ((j2 + 1) * 7 + lnA L j1)) ||| ((1 : Int32) <<< ((nI (lnB L j1)) &&& 31)))) ((j2 + 1) * 7 + lnB L j1) (((upd fv10_2 ((j2 + 1) * 7 + lnA L j1) ((fv10_2 ((j2 + 1) * 7 + lnA L j1)) ||| ((1 : Int32) <<< ((nI (lnB L j1)) &&& 31)))) ((j2 + 1) * 7 + lnB L j1)) ||| ((1 : Int32) <<< ((nI (lnA L j1)) &&& 31)))) (by omega) (by omega) (by rw [L2_X10_lookAtLines, ← hst2]; exact (show L2_X10_lookAtLiness L j1 j2 fv10_2 = (upd (upd fv10_2 ((j2 + 1) * 7 + lnA L j1) ((fv10_2 ((j2 + 1) * 7 + lnA L j1)) ||| ((1 : Int32) <<< ((nI (lnB L j1)) &&& 31)))) ((j2 + 1) * 7 + lnB L j1) (((upd fv10_2 ((j2 + 1) * 7 + lnA L j1) ((fv10_2 ((j2 + 1) * 7 + lnA L j1)) ||| ((1 : Int32) <<< ((nI (lnB L j1)) &&& 31)))) ((j2 + 1) * 7 + lnB L j1)) ||| ((1 : Int32) <<< ((nI (lnA L j1)) &&& 31)))) from by rw [L2_X10_lookAtLiness, if_neg c10, if_pos c17]).symm) _ _ _ hW (lv_sub hl [0, 1, 2, 3, 4] rfl)
        exact loop2 (24 + 1) 0 fv10_1 (by omega) (by omega) rfl _ _ _ hW (lv_sub hl [0, 1, 2, 3, 4] rfl)
  exact loop1 (lc + 1) 0 (fun _ => 0) (by omega) (by omega) rfl _ _ _ hW (lv_sub hl [0, 1] rfl)

def F_X10_setDown (lc : Nat) (L : Nat → Int32) (i : Nat) (h : Int32) : (Nat → Int32) × (Nat → Int32) := ((upd L (i * 6 + 5) h), (F_X10_lookAtLines lc (upd L (i * 6 + 5) h)))
set_option maxHeartbeats 4000000 in
set_option maxRecDepth 100000 in
theorem K_X10_setDown (l : Launch) (g : GG) (v : Nat) (v3 : Nat) (v4 : Nat) (v5 : Nat) (v6 : Nat) (v7 : Nat) (v8 : Nat) (v9 : Nat) (v10 : Nat) (v11 : Nat) (v12 : Nat) (v13 : Nat) (v15 : Nat) (pe : Int32) (lc : Nat) (de : Int32) (gl : Int32) (L : Nat → Int32) (K : Nat → Int32) (pp : Nat) (i : Nat) (h : Int32) (hi : i < lc) (hlc : lc ≤ 12) (hpp : pp ≤ 7) (hL : endsIn L lc pp) : MetV l g yX10_setDown cX10_setDown 3 none 4 0 0 [.ref v, .int (nI i), .int h] [(v, .inr (10, [.int pe, .int (nI lc), .int de, .ref v3, .ref v4, .ref v5, .ref v6, .ref v7, .ref v8, .ref v9, .ref v10, .ref v11, .ref v12, .ref v13, .int gl, .ref v15])), (v9, .inl (g.2.1 1, 72, .inl L)), (v10, .inl (g.2.1 1, 175, .inl K))] (fun u => u = [(v, .inr (10, [.int pe, .int (nI lc), .int de, .ref v3, .ref v4, .ref v5, .ref v6, .ref v7, .ref v8, .ref v9, .ref v10, .ref v11, .ref v12, .ref v13, .int gl, .ref v15])), (v9, .inl (g.2.1 1, 72, .inl ((F_X10_setDown lc L i h).1))), (v10, .inl (g.2.1 1, 175, .inl ((F_X10_setDown lc L i h).2)))]) := by
  refine MetV.of (own := RX10) rfl (by decide) (Nat.le_of_ble_eq_true rfl) ?_
  intro p e s m below meth c A ls args Q hQ X hr hin hW hl
  have hx := X.1
  have hb := X.2.1
  have hl : lv_has ls 3 [(0, .ref v), (1, .int (nI i)), (2, .int h)] := hl
  refine lv_aload_n (pc := 0) hx hb dX10_setDown_0 rfl (lv_at hl 0 rfl) ?_
  refine r_get X hW 0 ciX10 9 rfl (by decide) m_310 rfl rfl dX10_setDown_1 ?_
  refine lv_iload_n (pc := 4) hx hb dX10_setDown_4 rfl (lv_at hl 1 rfl) ?_
  refine lv_bipush (v := 6) (pc := 5) hx hb dX10_setDown_5 (by decide) ?_
  refine lv_imul (pc := 7) hx hb dX10_setDown_7 ?_
  refine lv_topi (fun v1 ev1 => ?_)
  obtain rfl : v1 = nI (i * 6) := ev1.trans (pk_mul i 6)
  refine lv_iconst (v := 5) (pc := 8) hx hb dX10_setDown_8 (by decide) ?_
  refine lv_iadd (pc := 9) hx hb dX10_setDown_9 ?_
  refine lv_topi (fun v2 ev2 => ?_)
  obtain rfl : v2 = nI (i * 6 + 5) := ev2.trans (nI_add (i * 6) 5)
  refine lv_iload_n (pc := 10) hx hb dX10_setDown_10 rfl (lv_at hl 2 rfl) ?_
  refine r_iast (ws' := [(v, .inr (10, [.int pe, .int (nI lc), .int de, .ref v3, .ref v4, .ref v5, .ref v6, .ref v7, .ref v8, .ref v9, .ref v10, .ref v11, .ref v12, .ref v13, .int gl, .ref v15])), (v9, .inl (g.2.1 1, 72, .inl (upd L (i * 6 + 5) h))), (v10, .inl (g.2.1 1, 175, .inl K))]) X hW 1 rfl (vp_in_nI (by omega) (by decide)) (f' := (upd L (i * 6 + 5) h)) (by rw [nI_clamp (by omega)]) rfl dX10_setDown_11 (fun H locs hW => ?_)
  refine lv_aload_n (pc := 12) hx hb dX10_setDown_12 rfl (lv_at hl 0 rfl) ?_
  refine c_Vv (pc := 13) (As := []) (rest := []) (wr := []) X hW 0 ciX10 rfl (K_X10_lookAtLines l g v v3 v4 v5 v6 v7 v8 v9 v10 v11 v12 v13 v15 pe lc de gl (upd L (i * 6 + 5) h) K pp (by omega) (by omega) (ends_dn hL)) vX10_73 [0, 1, 2] [] rfl rfl rfl rfl rfl rfl hl.1 rfl (Nat.le_of_ble_eq_true rfl) ⟨Nat.le_of_ble_eq_true rfl, Nat.le_of_ble_eq_true rfl⟩ ⟨Nat.le_of_ble_eq_true rfl, Nat.le_of_ble_eq_true rfl⟩ dX10_setDown_13 (fun u9 H locs hq hW => ?_)
  obtain rfl := hq
  have hW : WD g A s _ _ [(v, .inr (10, [.int pe, .int (nI lc), .int de, .ref v3, .ref v4, .ref v5, .ref v6, .ref v7, .ref v8, .ref v9, .ref v10, .ref v11, .ref v12, .ref v13, .int gl, .ref v15])), (v9, .inl (g.2.1 1, 72, .inl (upd L (i * 6 + 5) h))), (v10, .inl (g.2.1 1, 175, .inl (F_X10_lookAtLines lc (upd L (i * 6 + 5) h))))] := hW
  have hF : F_X10_setDown lc L i h = ((upd L (i * 6 + 5) h), (F_X10_lookAtLines lc (upd L (i * 6 + 5) h))) := show F_X10_setDown lc L i h = ((upd L (i * 6 + 5) h), (F_X10_lookAtLines lc (upd L (i * 6 + 5) h))) from rfl
  exact e_v (u := [(v, .inr (10, [.int pe, .int (nI lc), .int de, .ref v3, .ref v4, .ref v5, .ref v6, .ref v7, .ref v8, .ref v9, .ref v10, .ref v11, .ref v12, .ref v13, .int gl, .ref v15])), (v9, .inl (g.2.1 1, 72, .inl (upd L (i * 6 + 5) h))), (v10, .inl (g.2.1 1, 175, .inl (F_X10_lookAtLines lc (upd L (i * 6 + 5) h))))]) X hQ hr (hW) [0, 1, 2] rfl rfl (by rw [hF]) ⟨Nat.le_of_ble_eq_true rfl, Nat.le_of_ble_eq_true rfl⟩ dX10_setDown_16

def L1_X10_settles (g1 : Nat → Int32) (g2 : Nat → Int32) (g3 : Nat → Int32) (j1 : Nat) (fv6_1 : Nat → Int32) (fv7_1 : Nat → Int32) (fv8_1 : Nat → Int32) : (Nat → Int32) × (Nat → Int32) × (Nat → Int32) := ((upd fv6_1 j1 (F_X10_newsOfOne g1 (nI j1))), (upd fv7_1 j1 (F_X10_newsOfOne g2 (nI j1))), (upd fv8_1 j1 (F_X10_newsOfOne g3 (nI j1))))
def L1_X10_settle (g1 : Nat → Int32) (g2 : Nat → Int32) (g3 : Nat → Int32) (i0_ : Nat → Int32) (i1_ : Nat → Int32) (i2_ : Nat → Int32) : Nat → (Nat → Int32) × (Nat → Int32) × (Nat → Int32)
  | 0 => (i0_, i1_, i2_)
  | k_ + 1 => L1_X10_settles g1 g2 g3 k_ ((L1_X10_settle g1 g2 g3 i0_ i1_ i2_ k_).1) ((L1_X10_settle g1 g2 g3 i0_ i1_ i2_ k_).2.1) ((L1_X10_settle g1 g2 g3 i0_ i1_ i2_ k_).2.2)
def F_X10_settle (lc : Nat) (g1 : Nat → Int32) (g2 : Nat → Int32) (g3 : Nat → Int32) (k6 : Nat → Int32) (k7 : Nat → Int32) (k8 : Nat → Int32) (L : Nat → Int32) : (Nat → Int32) × (Nat → Int32) × (Nat → Int32) × (Nat → Int32) × (Nat → Int32) := (((L1_X10_settle g1 g2 g3 k6 k7 k8 7).1), ((L1_X10_settle g1 g2 g3 k6 k7 k8 7).2.1), ((L1_X10_settle g1 g2 g3 k6 k7 k8 7).2.2), (F_X10_lookAtLines lc L), (fun _ => (-1)))
set_option maxHeartbeats 4000000 in
set_option maxRecDepth 100000 in
theorem K_X10_settle (l : Launch) (g : GG) (v : Nat) (v3 : Nat) (v4 : Nat) (v5 : Nat) (v6 : Nat) (v7 : Nat) (v8 : Nat) (v9 : Nat) (v10 : Nat) (v11 : Nat) (v12 : Nat) (v13 : Nat) (v15 : Nat) (pe : Int32) (lc : Nat) (de : Int32) (gl : Int32) (g1 : Nat → Int32) (g2 : Nat → Int32) (g3 : Nat → Int32) (k6 : Nat → Int32) (k7 : Nat → Int32) (k8 : Nat → Int32) (L : Nat → Int32) (K : Nat → Int32) (k13 : Nat → Int32) (pp : Nat) (hlc : lc ≤ 12) (hpp : pp ≤ 7) (hL : endsIn L lc pp) : MetV l g yX10_settle cX10_settle 2 none 4 0 0 [.ref v] [(v, .inr (10, [.int pe, .int (nI lc), .int de, .ref v3, .ref v4, .ref v5, .ref v6, .ref v7, .ref v8, .ref v9, .ref v10, .ref v11, .ref v12, .ref v13, .int gl, .ref v15])), (v3, .inl (g.2.1 1, 4, .inl g1)), (v4, .inl (g.2.1 1, 4, .inl g2)), (v5, .inl (g.2.1 1, 4, .inl g3)), (v6, .inl (g.2.1 1, 7, .inl k6)), (v7, .inl (g.2.1 1, 7, .inl k7)), (v8, .inl (g.2.1 1, 7, .inl k8)), (v9, .inl (g.2.1 1, 72, .inl L)), (v10, .inl (g.2.1 1, 175, .inl K)), (v13, .inl (g.2.1 1, 28, .inl k13))] (fun u => u = [(v, .inr (10, [.int pe, .int (nI lc), .int de, .ref v3, .ref v4, .ref v5, .ref v6, .ref v7, .ref v8, .ref v9, .ref v10, .ref v11, .ref v12, .ref v13, .int gl, .ref v15])), (v3, .inl (g.2.1 1, 4, .inl g1)), (v4, .inl (g.2.1 1, 4, .inl g2)), (v5, .inl (g.2.1 1, 4, .inl g3)), (v6, .inl (g.2.1 1, 7, .inl ((F_X10_settle lc g1 g2 g3 k6 k7 k8 L).1))), (v7, .inl (g.2.1 1, 7, .inl ((F_X10_settle lc g1 g2 g3 k6 k7 k8 L).2.1))), (v8, .inl (g.2.1 1, 7, .inl ((F_X10_settle lc g1 g2 g3 k6 k7 k8 L).2.2.1))), (v9, .inl (g.2.1 1, 72, .inl L)), (v10, .inl (g.2.1 1, 175, .inl ((F_X10_settle lc g1 g2 g3 k6 k7 k8 L).2.2.2.1))), (v13, .inl (g.2.1 1, 28, .inl ((F_X10_settle lc g1 g2 g3 k6 k7 k8 L).2.2.2.2)))]) := by
  refine MetV.of (own := RX10) rfl (by decide) (Nat.le_of_ble_eq_true rfl) ?_
  intro p e s m below meth c A ls args Q hQ X hr hin hW hl
  have hx := X.1
  have hb := X.2.1
  have hl : lv_has ls 2 [(0, .ref v)] := hl
  refine lv_aload_n (pc := 0) hx hb dX10_settle_0 rfl (lv_at hl 0 rfl) ?_
  refine r_get X hW 0 ciX10 13 rfl (by decide) m_314 rfl rfl dX10_settle_1 ?_
  refine lv_iconst (v := (-1)) (pc := 4) hx hb dX10_settle_4 (by decide) ?_
  refine c_Sv (pc := 5) (As := [.ref v13, .int (-1)]) (rest := []) (wr := [(v, .inr (10, [.int pe, .int (nI lc), .int de, .ref v3, .ref v4, .ref v5, .ref v6, .ref v7, .ref v8, .ref v9, .ref v10, .ref v11, .ref v12, .ref v13, .int gl, .ref v15])), (v3, .inl (g.2.1 1, 4, .inl g1)), (v4, .inl (g.2.1 1, 4, .inl g2)), (v5, .inl (g.2.1 1, 4, .inl g3)), (v6, .inl (g.2.1 1, 7, .inl k6)), (v7, .inl (g.2.1 1, 7, .inl k7)), (v8, .inl (g.2.1 1, 7, .inl k8)), (v9, .inl (g.2.1 1, 72, .inl L)), (v10, .inl (g.2.1 1, 175, .inl K))]) X hW (C_J7_fillE l g v13 28 k13 (-1) (by decide)) vX10_63 [9] [0, 1, 2, 3, 4, 5, 6, 7, 8] rfl rfl rfl rfl rfl rfl hl.1 rfl (Nat.le_of_ble_eq_true rfl) ⟨Nat.le_of_ble_eq_true rfl, Nat.le_of_ble_eq_true rfl⟩ ⟨Nat.le_of_ble_eq_true rfl, Nat.le_of_ble_eq_true rfl⟩ dX10_settle_5 (fun u9 H locs hq hW => ?_)
  obtain rfl := hq
  have hW : WD g A s _ _ [(v, .inr (10, [.int pe, .int (nI lc), .int de, .ref v3, .ref v4, .ref v5, .ref v6, .ref v7, .ref v8, .ref v9, .ref v10, .ref v11, .ref v12, .ref v13, .int gl, .ref v15])), (v3, .inl (g.2.1 1, 4, .inl g1)), (v4, .inl (g.2.1 1, 4, .inl g2)), (v5, .inl (g.2.1 1, 4, .inl g3)), (v6, .inl (g.2.1 1, 7, .inl k6)), (v7, .inl (g.2.1 1, 7, .inl k7)), (v8, .inl (g.2.1 1, 7, .inl k8)), (v9, .inl (g.2.1 1, 72, .inl L)), (v10, .inl (g.2.1 1, 175, .inl K)), (v13, .inl (g.2.1 1, 28, .inl (fun _ => (-1))))] := hW
  refine lv_iconst (v := 0) (pc := 8) hx hb dX10_settle_8 (by decide) ?_
  refine lv_istore_n (lv' := [(1, .int 0), (0, .ref v)]) (pc := 9) hx hb dX10_settle_9 rfl hl (by decide) rfl (fun ls hl => ?_)
  have loop1 : ∀ (fu1 : Nat) (j1 : Nat) (fv6_1 : Nat → Int32) (fv7_1 : Nat → Int32) (fv8_1 : Nat → Int32), (7 < fu1 + j1) → (j1 ≤ 7) → ((fv6_1, fv7_1, fv8_1) = L1_X10_settle g1 g2 g3 k6 k7 k8 j1) → ∀ (H : Heap) (locs : List Loc) (ls : Array Slot), WD g A s H locs [(v, .inr (10, [.int pe, .int (nI lc), .int de, .ref v3, .ref v4, .ref v5, .ref v6, .ref v7, .ref v8, .ref v9, .ref v10, .ref v11, .ref v12, .ref v13, .int gl, .ref v15])), (v3, .inl (g.2.1 1, 4, .inl g1)), (v4, .inl (g.2.1 1, 4, .inl g2)), (v5, .inl (g.2.1 1, 4, .inl g3)), (v6, .inl (g.2.1 1, 7, .inl fv6_1)), (v7, .inl (g.2.1 1, 7, .inl fv7_1)), (v8, .inl (g.2.1 1, 7, .inl fv8_1)), (v9, .inl (g.2.1 1, 72, .inl L)), (v10, .inl (g.2.1 1, 175, .inl K)), (v13, .inl (g.2.1 1, 28, .inl (fun _ => (-1))))] → lv_has ls 2 [(1, .int (nI j1)), (0, .ref v)] → W p l e (RM 4 0 0) s m args below meth c H locs 0 0 Q (F0 m 10 ls []) := by
    intro fu1
    induction fu1 with
    | zero =>
      intro j1 fv6_1 fv7_1 fv8_1 hm1 hj1 hst1
      exact absurd hm1 (by omega)
    | succ fu1 ih1 =>
      intro j1 fv6_1 fv7_1 fv8_1 hm1 hj1 hst1 H locs ls hW hl
      refine lv_iload_n (pc := 10) hx hb dX10_settle_10 rfl (lv_at hl 0 rfl) ?_
      refine lv_bipush (v := 7) (pc := 11) hx hb dX10_settle_11 (by decide) ?_
      refine lv_icmp_ge (tgt := 64) (pc := 13) hx hb dX10_settle_13 rfl (fun c1 => ?_) (fun c1 => ?_)
      · have h2 : 7 ≤ j1 := (nI_leI (a := 7) (b := j1) (by omega) (by omega)).mp c1
        have hN1 : j1 = 7 := by omega
        rw [hN1] at hst1
        have hs1_0 : fv6_1 = (L1_X10_settle g1 g2 g3 k6 k7 k8 7).1 := congrArg (fun z => z.1) hst1
        have hs1_1 : fv7_1 = (L1_X10_settle g1 g2 g3 k6 k7 k8 7).2.1 := congrArg (fun z => z.2.1) hst1
        have hs1_2 : fv8_1 = (L1_X10_settle g1 g2 g3 k6 k7 k8 7).2.2 := congrArg (fun z => z.2.2) hst1
        clear hst1
        subst hs1_0
        subst hs1_1
        subst hs1_2
        have hW : WD g A s _ _ [(v, .inr (10, [.int pe, .int (nI lc), .int de, .ref v3, .ref v4, .ref v5, .ref v6, .ref v7, .ref v8, .ref v9, .ref v10, .ref v11, .ref v12, .ref v13, .int gl, .ref v15])), (v3, .inl (g.2.1 1, 4, .inl g1)), (v4, .inl (g.2.1 1, 4, .inl g2)), (v5, .inl (g.2.1 1, 4, .inl g3)), (v6, .inl (g.2.1 1, 7, .inl ((L1_X10_settle g1 g2 g3 k6 k7 k8 7).1))), (v7, .inl (g.2.1 1, 7, .inl ((L1_X10_settle g1 g2 g3 k6 k7 k8 7).2.1))), (v8, .inl (g.2.1 1, 7, .inl ((L1_X10_settle g1 g2 g3 k6 k7 k8 7).2.2))), (v9, .inl (g.2.1 1, 72, .inl L)), (v10, .inl (g.2.1 1, 175, .inl K)), (v13, .inl (g.2.1 1, 28, .inl (fun _ => (-1))))] := hW
        refine lv_aload_n (pc := 64) hx hb dX10_settle_64 rfl (lv_at hl 1 rfl) ?_
        refine c_Vv (pc := 65) (As := []) (rest := []) (wr := [(v3, .inl (g.2.1 1, 4, .inl g1)), (v4, .inl (g.2.1 1, 4, .inl g2)), (v5, .inl (g.2.1 1, 4, .inl g3)), (v6, .inl (g.2.1 1, 7, .inl ((L1_X10_settle g1 g2 g3 k6 k7 k8 7).1))), (v7, .inl (g.2.1 1, 7, .inl ((L1_X10_settle g1 g2 g3 k6 k7 k8 7).2.1))), (v8, .inl (g.2.1 1, 7, .inl ((L1_X10_settle g1 g2 g3 k6 k7 k8 7).2.2))), (v13, .inl (g.2.1 1, 28, .inl (fun _ => (-1))))]) X hW 0 ciX10 rfl (K_X10_lookAtLines l g v v3 v4 v5 v6 v7 v8 v9 v10 v11 v12 v13 v15 pe lc de gl L K pp (by omega) (by omega) hL) vX10_73 [0, 7, 8] [1, 2, 3, 4, 5, 6, 9] rfl rfl rfl rfl rfl rfl hl.1 rfl (Nat.le_of_ble_eq_true rfl) ⟨Nat.le_of_ble_eq_true rfl, Nat.le_of_ble_eq_true rfl⟩ ⟨Nat.le_of_ble_eq_true rfl, Nat.le_of_ble_eq_true rfl⟩ dX10_settle_65 (fun u9 H locs hq hW => ?_)
        obtain rfl := hq
        have hW : WD g A s _ _ [(v3, .inl (g.2.1 1, 4, .inl g1)), (v4, .inl (g.2.1 1, 4, .inl g2)), (v5, .inl (g.2.1 1, 4, .inl g3)), (v6, .inl (g.2.1 1, 7, .inl ((L1_X10_settle g1 g2 g3 k6 k7 k8 7).1))), (v7, .inl (g.2.1 1, 7, .inl ((L1_X10_settle g1 g2 g3 k6 k7 k8 7).2.1))), (v8, .inl (g.2.1 1, 7, .inl ((L1_X10_settle g1 g2 g3 k6 k7 k8 7).2.2))), (v13, .inl (g.2.1 1, 28, .inl (fun _ => (-1)))), (v, .inr (10, [.int pe, .int (nI lc), .int de, .ref v3, .ref v4, .ref v5, .ref v6, .ref v7, .ref v8, .ref v9, .ref v10, .ref v11, .ref v12, .ref v13, .int gl, .ref v15])), (v9, .inl (g.2.1 1, 72, .inl L)), (v10, .inl (g.2.1 1, 175, .inl (F_X10_lookAtLines lc L)))] := hW
        have hF : F_X10_settle lc g1 g2 g3 k6 k7 k8 L = (((L1_X10_settle g1 g2 g3 k6 k7 k8 7).1), ((L1_X10_settle g1 g2 g3 k6 k7 k8 7).2.1), ((L1_X10_settle g1 g2 g3 k6 k7 k8 7).2.2), (F_X10_lookAtLines lc L), (fun _ => (-1))) := show F_X10_settle lc g1 g2 g3 k6 k7 k8 L = (((L1_X10_settle g1 g2 g3 k6 k7 k8 7).1), ((L1_X10_settle g1 g2 g3 k6 k7 k8 7).2.1), ((L1_X10_settle g1 g2 g3 k6 k7 k8 7).2.2), (F_X10_lookAtLines lc L), (fun _ => (-1))) from rfl
        exact e_v (u := [(v, .inr (10, [.int pe, .int (nI lc), .int de, .ref v3, .ref v4, .ref v5, .ref v6, .ref v7, .ref v8, .ref v9, .ref v10, .ref v11, .ref v12, .ref v13, .int gl, .ref v15])), (v3, .inl (g.2.1 1, 4, .inl g1)), (v4, .inl (g.2.1 1, 4, .inl g2)), (v5, .inl (g.2.1 1, 4, .inl g3)), (v6, .inl (g.2.1 1, 7, .inl ((L1_X10_settle g1 g2 g3 k6 k7 k8 7).1))), (v7, .inl (g.2.1 1, 7, .inl ((L1_X10_settle g1 g2 g3 k6 k7 k8 7).2.1))), (v8, .inl (g.2.1 1, 7, .inl ((L1_X10_settle g1 g2 g3 k6 k7 k8 7).2.2))), (v9, .inl (g.2.1 1, 72, .inl L)), (v10, .inl (g.2.1 1, 175, .inl (F_X10_lookAtLines lc L))), (v13, .inl (g.2.1 1, 28, .inl (fun _ => (-1))))]) X hQ hr (hW) [7, 0, 1, 2, 3, 4, 5, 8, 9, 6] rfl rfl (by rw [hF]) ⟨Nat.le_of_ble_eq_true rfl, Nat.le_of_ble_eq_true rfl⟩ dX10_settle_68
      · have h3 : ¬ (7 ≤ j1) := fun q => c1 ((nI_leI (a := 7) (b := j1) (by omega) (by omega)).mpr q)
        refine lv_aload_n (pc := 16) hx hb dX10_settle_16 rfl (lv_at hl 1 rfl) ?_
        refine r_get X hW 0 ciX10 6 rfl (by decide) m_304 rfl rfl dX10_settle_17 ?_
        refine lv_iload_n (pc := 20) hx hb dX10_settle_20 rfl (lv_at hl 0 rfl) ?_
        refine lv_aload_n (pc := 21) hx hb dX10_settle_21 rfl (lv_at hl 1 rfl) ?_
        refine r_get X hW 0 ciX10 3 rfl (by decide) m_291 rfl rfl dX10_settle_22 ?_
        refine lv_iload_n (pc := 25) hx hb dX10_settle_25 rfl (lv_at hl 0 rfl) ?_
        refine c_Si (pc := 26) (As := [.ref v3, .int (nI j1)]) (rest := [.int (nI j1), .ref v6]) (wr := [(v, .inr (10, [.int pe, .int (nI lc), .int de, .ref v3, .ref v4, .ref v5, .ref v6, .ref v7, .ref v8, .ref v9, .ref v10, .ref v11, .ref v12, .ref v13, .int gl, .ref v15])), (v4, .inl (g.2.1 1, 4, .inl g2)), (v5, .inl (g.2.1 1, 4, .inl g3)), (v6, .inl (g.2.1 1, 7, .inl fv6_1)), (v7, .inl (g.2.1 1, 7, .inl fv7_1)), (v8, .inl (g.2.1 1, 7, .inl fv8_1)), (v9, .inl (g.2.1 1, 72, .inl L)), (v10, .inl (g.2.1 1, 175, .inl K)), (v13, .inl (g.2.1 1, 28, .inl (fun _ => (-1))))]) X hW (K_X10_newsOfOne l g v3 g1 (nI j1)) vX10_69 [1] [0, 2, 3, 4, 5, 6, 7, 8, 9] rfl rfl rfl rfl rfl rfl hl.1 rfl (Nat.le_of_ble_eq_true rfl) ⟨Nat.le_of_ble_eq_true rfl, Nat.le_of_ble_eq_true rfl⟩ ⟨Nat.le_of_ble_eq_true rfl, Nat.le_of_ble_eq_true rfl⟩ dX10_settle_26 (fun r4 u9 H locs hq hW => ?_)
        obtain ⟨rfl, rfl⟩ := hq
        have hW : WD g A s _ _ [(v, .inr (10, [.int pe, .int (nI lc), .int de, .ref v3, .ref v4, .ref v5, .ref v6, .ref v7, .ref v8, .ref v9, .ref v10, .ref v11, .ref v12, .ref v13, .int gl, .ref v15])), (v4, .inl (g.2.1 1, 4, .inl g2)), (v5, .inl (g.2.1 1, 4, .inl g3)), (v6, .inl (g.2.1 1, 7, .inl fv6_1)), (v7, .inl (g.2.1 1, 7, .inl fv7_1)), (v8, .inl (g.2.1 1, 7, .inl fv8_1)), (v9, .inl (g.2.1 1, 72, .inl L)), (v10, .inl (g.2.1 1, 175, .inl K)), (v13, .inl (g.2.1 1, 28, .inl (fun _ => (-1)))), (v3, .inl (g.2.1 1, 4, .inl g1))] := hW
        refine r_iast (ws' := [(v, .inr (10, [.int pe, .int (nI lc), .int de, .ref v3, .ref v4, .ref v5, .ref v6, .ref v7, .ref v8, .ref v9, .ref v10, .ref v11, .ref v12, .ref v13, .int gl, .ref v15])), (v4, .inl (g.2.1 1, 4, .inl g2)), (v5, .inl (g.2.1 1, 4, .inl g3)), (v6, .inl (g.2.1 1, 7, .inl (upd fv6_1 j1 (F_X10_newsOfOne g1 (nI j1))))), (v7, .inl (g.2.1 1, 7, .inl fv7_1)), (v8, .inl (g.2.1 1, 7, .inl fv8_1)), (v9, .inl (g.2.1 1, 72, .inl L)), (v10, .inl (g.2.1 1, 175, .inl K)), (v13, .inl (g.2.1 1, 28, .inl (fun _ => (-1)))), (v3, .inl (g.2.1 1, 4, .inl g1))]) X hW 3 rfl (vp_in_nI (by omega) (by decide)) (f' := (upd fv6_1 j1 (F_X10_newsOfOne g1 (nI j1)))) (by rw [nI_clamp (by omega)]) rfl dX10_settle_29 (fun H locs hW => ?_)
        refine lv_aload_n (pc := 30) hx hb dX10_settle_30 rfl (lv_at hl 1 rfl) ?_
        refine r_get X hW 0 ciX10 7 rfl (by decide) m_306 rfl rfl dX10_settle_31 ?_
        refine lv_iload_n (pc := 34) hx hb dX10_settle_34 rfl (lv_at hl 0 rfl) ?_
        refine lv_aload_n (pc := 35) hx hb dX10_settle_35 rfl (lv_at hl 1 rfl) ?_
        refine r_get X hW 0 ciX10 4 rfl (by decide) m_296 rfl rfl dX10_settle_36 ?_
        refine lv_iload_n (pc := 39) hx hb dX10_settle_39 rfl (lv_at hl 0 rfl) ?_
        refine c_Si (pc := 40) (As := [.ref v4, .int (nI j1)]) (rest := [.int (nI j1), .ref v7]) (wr := [(v, .inr (10, [.int pe, .int (nI lc), .int de, .ref v3, .ref v4, .ref v5, .ref v6, .ref v7, .ref v8, .ref v9, .ref v10, .ref v11, .ref v12, .ref v13, .int gl, .ref v15])), (v5, .inl (g.2.1 1, 4, .inl g3)), (v6, .inl (g.2.1 1, 7, .inl (upd fv6_1 j1 (F_X10_newsOfOne g1 (nI j1))))), (v7, .inl (g.2.1 1, 7, .inl fv7_1)), (v8, .inl (g.2.1 1, 7, .inl fv8_1)), (v9, .inl (g.2.1 1, 72, .inl L)), (v10, .inl (g.2.1 1, 175, .inl K)), (v13, .inl (g.2.1 1, 28, .inl (fun _ => (-1)))), (v3, .inl (g.2.1 1, 4, .inl g1))]) X hW (K_X10_newsOfOne l g v4 g2 (nI j1)) vX10_69 [1] [0, 2, 3, 4, 5, 6, 7, 8, 9] rfl rfl rfl rfl rfl rfl hl.1 rfl (Nat.le_of_ble_eq_true rfl) ⟨Nat.le_of_ble_eq_true rfl, Nat.le_of_ble_eq_true rfl⟩ ⟨Nat.le_of_ble_eq_true rfl, Nat.le_of_ble_eq_true rfl⟩ dX10_settle_40 (fun r5 u9 H locs hq hW => ?_)
        obtain ⟨rfl, rfl⟩ := hq
        have hW : WD g A s _ _ [(v, .inr (10, [.int pe, .int (nI lc), .int de, .ref v3, .ref v4, .ref v5, .ref v6, .ref v7, .ref v8, .ref v9, .ref v10, .ref v11, .ref v12, .ref v13, .int gl, .ref v15])), (v5, .inl (g.2.1 1, 4, .inl g3)), (v6, .inl (g.2.1 1, 7, .inl (upd fv6_1 j1 (F_X10_newsOfOne g1 (nI j1))))), (v7, .inl (g.2.1 1, 7, .inl fv7_1)), (v8, .inl (g.2.1 1, 7, .inl fv8_1)), (v9, .inl (g.2.1 1, 72, .inl L)), (v10, .inl (g.2.1 1, 175, .inl K)), (v13, .inl (g.2.1 1, 28, .inl (fun _ => (-1)))), (v3, .inl (g.2.1 1, 4, .inl g1)), (v4, .inl (g.2.1 1, 4, .inl g2))] := hW
        refine r_iast (ws' := [(v, .inr (10, [.int pe, .int (nI lc), .int de, .ref v3, .ref v4, .ref v5, .ref v6, .ref v7, .ref v8, .ref v9, .ref v10, .ref v11, .ref v12, .ref v13, .int gl, .ref v15])), (v5, .inl (g.2.1 1, 4, .inl g3)), (v6, .inl (g.2.1 1, 7, .inl (upd fv6_1 j1 (F_X10_newsOfOne g1 (nI j1))))), (v7, .inl (g.2.1 1, 7, .inl (upd fv7_1 j1 (F_X10_newsOfOne g2 (nI j1))))), (v8, .inl (g.2.1 1, 7, .inl fv8_1)), (v9, .inl (g.2.1 1, 72, .inl L)), (v10, .inl (g.2.1 1, 175, .inl K)), (v13, .inl (g.2.1 1, 28, .inl (fun _ => (-1)))), (v3, .inl (g.2.1 1, 4, .inl g1)), (v4, .inl (g.2.1 1, 4, .inl g2))]) X hW 3 rfl (vp_in_nI (by omega) (by decide)) (f' := (upd fv7_1 j1 (F_X10_newsOfOne g2 (nI j1)))) (by rw [nI_clamp (by omega)]) rfl dX10_settle_43 (fun H locs hW => ?_)
        refine lv_aload_n (pc := 44) hx hb dX10_settle_44 rfl (lv_at hl 1 rfl) ?_
        refine r_get X hW 0 ciX10 8 rfl (by decide) m_308 rfl rfl dX10_settle_45 ?_
        refine lv_iload_n (pc := 48) hx hb dX10_settle_48 rfl (lv_at hl 0 rfl) ?_
        refine lv_aload_n (pc := 49) hx hb dX10_settle_49 rfl (lv_at hl 1 rfl) ?_
        refine r_get X hW 0 ciX10 5 rfl (by decide) m_300 rfl rfl dX10_settle_50 ?_
        refine lv_iload_n (pc := 53) hx hb dX10_settle_53 rfl (lv_at hl 0 rfl) ?_
        refine c_Si (pc := 54) (As := [.ref v5, .int (nI j1)]) (rest := [.int (nI j1), .ref v8]) (wr := [(v, .inr (10, [.int pe, .int (nI lc), .int de, .ref v3, .ref v4, .ref v5, .ref v6, .ref v7, .ref v8, .ref v9, .ref v10, .ref v11, .ref v12, .ref v13, .int gl, .ref v15])), (v6, .inl (g.2.1 1, 7, .inl (upd fv6_1 j1 (F_X10_newsOfOne g1 (nI j1))))), (v7, .inl (g.2.1 1, 7, .inl (upd fv7_1 j1 (F_X10_newsOfOne g2 (nI j1))))), (v8, .inl (g.2.1 1, 7, .inl fv8_1)), (v9, .inl (g.2.1 1, 72, .inl L)), (v10, .inl (g.2.1 1, 175, .inl K)), (v13, .inl (g.2.1 1, 28, .inl (fun _ => (-1)))), (v3, .inl (g.2.1 1, 4, .inl g1)), (v4, .inl (g.2.1 1, 4, .inl g2))]) X hW (K_X10_newsOfOne l g v5 g3 (nI j1)) vX10_69 [1] [0, 2, 3, 4, 5, 6, 7, 8, 9] rfl rfl rfl rfl rfl rfl hl.1 rfl (Nat.le_of_ble_eq_true rfl) ⟨Nat.le_of_ble_eq_true rfl, Nat.le_of_ble_eq_true rfl⟩ ⟨Nat.le_of_ble_eq_true rfl, Nat.le_of_ble_eq_true rfl⟩ dX10_settle_54 (fun r6 u9 H locs hq hW => ?_)
        obtain ⟨rfl, rfl⟩ := hq
        have hW : WD g A s _ _ [(v, .inr (10, [.int pe, .int (nI lc), .int de, .ref v3, .ref v4, .ref v5, .ref v6, .ref v7, .ref v8, .ref v9, .ref v10, .ref v11, .ref v12, .ref v13, .int gl, .ref v15])), (v6, .inl (g.2.1 1, 7, .inl (upd fv6_1 j1 (F_X10_newsOfOne g1 (nI j1))))), (v7, .inl (g.2.1 1, 7, .inl (upd fv7_1 j1 (F_X10_newsOfOne g2 (nI j1))))), (v8, .inl (g.2.1 1, 7, .inl fv8_1)), (v9, .inl (g.2.1 1, 72, .inl L)), (v10, .inl (g.2.1 1, 175, .inl K)), (v13, .inl (g.2.1 1, 28, .inl (fun _ => (-1)))), (v3, .inl (g.2.1 1, 4, .inl g1)), (v4, .inl (g.2.1 1, 4, .inl g2)), (v5, .inl (g.2.1 1, 4, .inl g3))] := hW
        refine r_iast (ws' := [(v, .inr (10, [.int pe, .int (nI lc), .int de, .ref v3, .ref v4, .ref v5, .ref v6, .ref v7, .ref v8, .ref v9, .ref v10, .ref v11, .ref v12, .ref v13, .int gl, .ref v15])), (v6, .inl (g.2.1 1, 7, .inl (upd fv6_1 j1 (F_X10_newsOfOne g1 (nI j1))))), (v7, .inl (g.2.1 1, 7, .inl (upd fv7_1 j1 (F_X10_newsOfOne g2 (nI j1))))), (v8, .inl (g.2.1 1, 7, .inl (upd fv8_1 j1 (F_X10_newsOfOne g3 (nI j1))))), (v9, .inl (g.2.1 1, 72, .inl L)), (v10, .inl (g.2.1 1, 175, .inl K)), (v13, .inl (g.2.1 1, 28, .inl (fun _ => (-1)))), (v3, .inl (g.2.1 1, 4, .inl g1)), (v4, .inl (g.2.1 1, 4, .inl g2)), (v5, .inl (g.2.1 1, 4, .inl g3))]) X hW 3 rfl (vp_in_nI (by omega) (by decide)) (f' := (upd fv8_1 j1 (F_X10_newsOfOne g3 (nI j1)))) (by rw [nI_clamp (by omega)]) rfl dX10_settle_57 (fun H locs hW => ?_)
        refine lv_iinc (v := nI (j1 + 1)) (lv' := [(1, .int (nI (j1 + 1))), (0, .ref v)]) (pc := 58) hx hb dX10_settle_58 hl (k := 0) rfl (nI_add j1 1) (by decide) rfl (fun ls hl => ?_)
        refine lv_goto (tgt := 10) (pc := 61) hx hb dX10_settle_61 rfl ?_
        have hW : WD g A s _ _ [(v, .inr (10, [.int pe, .int (nI lc), .int de, .ref v3, .ref v4, .ref v5, .ref v6, .ref v7, .ref v8, .ref v9, .ref v10, .ref v11, .ref v12, .ref v13, .int gl, .ref v15])), (v3, .inl (g.2.1 1, 4, .inl g1)), (v4, .inl (g.2.1 1, 4, .inl g2)), (v5, .inl (g.2.1 1, 4, .inl g3)), (v6, .inl (g.2.1 1, 7, .inl (upd fv6_1 j1 (F_X10_newsOfOne g1 (nI j1))))), (v7, .inl (g.2.1 1, 7, .inl (upd fv7_1 j1 (F_X10_newsOfOne g2 (nI j1))))), (v8, .inl (g.2.1 1, 7, .inl (upd fv8_1 j1 (F_X10_newsOfOne g3 (nI j1))))), (v9, .inl (g.2.1 1, 72, .inl L)), (v10, .inl (g.2.1 1, 175, .inl K)), (v13, .inl (g.2.1 1, 28, .inl (fun _ => (-1))))] := hW.pick [0, 7, 8, 9, 1, 2, 3, 4, 5, 6] rfl rfl
        exact ih1 (j1 + 1) (upd fv6_1 j1 (F_X10_newsOfOne g1 (nI j1))) (upd fv7_1 j1 (F_X10_newsOfOne g2 (nI j1))) (upd fv8_1 j1 (F_X10_newsOfOne g3 (nI j1))) (by omega) (by omega) (by rw [L1_X10_settle, ← hst1]; exact (show L1_X10_settles g1 g2 g3 j1 fv6_1 fv7_1 fv8_1 = ((upd fv6_1 j1 (F_X10_newsOfOne g1 (nI j1))), (upd fv7_1 j1 (F_X10_newsOfOne g2 (nI j1))), (upd fv8_1 j1 (F_X10_newsOfOne g3 (nI j1)))) from rfl).symm) _ _ _ hW (lv_sub hl [0, 1] rfl)
  exact loop1 (7 + 1) 0 k6 k7 k8 (by omega) (by omega) rfl _ _ _ hW (lv_sub hl [0, 1] rfl)

def F_X10_hasPerson (pe : Int32) (x : Int32) : Int32 := if x < 0 then ((0 : Int32)) else (if pe ≤ x then ((0 : Int32)) else ((1 : Int32)))
set_option maxHeartbeats 4000000 in
set_option maxRecDepth 100000 in
theorem K_X10_hasPerson (l : Launch) (g : GG) (v : Nat) (v3 : Nat) (v4 : Nat) (v5 : Nat) (v6 : Nat) (v7 : Nat) (v8 : Nat) (v9 : Nat) (v10 : Nat) (v11 : Nat) (v12 : Nat) (v13 : Nat) (v15 : Nat) (pe : Int32) (lc : Int32) (de : Int32) (gl : Int32) (x : Int32)  : MetI l g yX10_hasPerson cX10_hasPerson 2 (some .boolean) 0 0 0 [.ref v, .int x] [(v, .inr (10, [.int pe, .int lc, .int de, .ref v3, .ref v4, .ref v5, .ref v6, .ref v7, .ref v8, .ref v9, .ref v10, .ref v11, .ref v12, .ref v13, .int gl, .ref v15]))] (fun r u => r = (F_X10_hasPerson pe x) ∧ u = [(v, .inr (10, [.int pe, .int lc, .int de, .ref v3, .ref v4, .ref v5, .ref v6, .ref v7, .ref v8, .ref v9, .ref v10, .ref v11, .ref v12, .ref v13, .int gl, .ref v15]))]) := by
  refine MetI.of (own := RX10) rfl (by decide) (Nat.le_of_ble_eq_true rfl) ?_
  intro p e s m below meth c A ls args Q hQ X hr hin hW hl
  have hx := X.1
  have hb := X.2.1
  have hl : lv_has ls 2 [(0, .ref v), (1, .int x)] := hl
  refine lv_iload_n (pc := 0) hx hb dX10_hasPerson_0 rfl (lv_at hl 1 rfl) ?_
  refine lv_if_lt (tgt := 16) (pc := 1) hx hb dX10_hasPerson_1 rfl (fun c1 => ?_) (fun c1 => ?_)
  · refine lv_iconst (v := 0) (pc := 16) hx hb dX10_hasPerson_16 (by decide) ?_
    have hF : F_X10_hasPerson pe x = (0 : Int32) := show F_X10_hasPerson pe x = (0 : Int32) from by rw [F_X10_hasPerson, if_pos c1]
    exact e_z (u := [(v, .inr (10, [.int pe, .int lc, .int de, .ref v3, .ref v4, .ref v5, .ref v6, .ref v7, .ref v8, .ref v9, .ref v10, .ref v11, .ref v12, .ref v13, .int gl, .ref v15]))]) X hQ hr (hW) rfl [0] rfl rfl (⟨hF.symm, rfl⟩) ⟨Nat.le_of_ble_eq_true rfl, Nat.le_of_ble_eq_true rfl⟩ dX10_hasPerson_17
  · refine lv_iload_n (pc := 4) hx hb dX10_hasPerson_4 rfl (lv_at hl 1 rfl) ?_
    refine lv_aload_n (pc := 5) hx hb dX10_hasPerson_5 rfl (lv_at hl 0 rfl) ?_
    refine r_get X hW 0 ciX10 0 rfl (by decide) m_272 rfl rfl dX10_hasPerson_6 ?_
    refine lv_icmp_ge (tgt := 16) (pc := 9) hx hb dX10_hasPerson_9 rfl (fun c4 => ?_) (fun c4 => ?_)
    · refine lv_iconst (v := 0) (pc := 16) hx hb dX10_hasPerson_16 (by decide) ?_
      have hF : F_X10_hasPerson pe x = (0 : Int32) := show F_X10_hasPerson pe x = (0 : Int32) from by rw [F_X10_hasPerson, if_neg c1, if_pos c4]
      exact e_z (u := [(v, .inr (10, [.int pe, .int lc, .int de, .ref v3, .ref v4, .ref v5, .ref v6, .ref v7, .ref v8, .ref v9, .ref v10, .ref v11, .ref v12, .ref v13, .int gl, .ref v15]))]) X hQ hr (hW) rfl [0] rfl rfl (⟨hF.symm, rfl⟩) ⟨Nat.le_of_ble_eq_true rfl, Nat.le_of_ble_eq_true rfl⟩ dX10_hasPerson_17
    · refine lv_iconst (v := 1) (pc := 12) hx hb dX10_hasPerson_12 (by decide) ?_
      refine lv_goto (tgt := 17) (pc := 13) hx hb dX10_hasPerson_13 rfl ?_
      have hF : F_X10_hasPerson pe x = (1 : Int32) := show F_X10_hasPerson pe x = (1 : Int32) from by rw [F_X10_hasPerson, if_neg c1, if_neg c4]
      exact e_z (u := [(v, .inr (10, [.int pe, .int lc, .int de, .ref v3, .ref v4, .ref v5, .ref v6, .ref v7, .ref v8, .ref v9, .ref v10, .ref v11, .ref v12, .ref v13, .int gl, .ref v15]))]) X hQ hr (hW) rfl [0] rfl rfl (⟨hF.symm, rfl⟩) ⟨Nat.le_of_ble_eq_true rfl, Nat.le_of_ble_eq_true rfl⟩ dX10_hasPerson_17

def F_X10_hasCouple (pe : Int32) (x : Int32) (y : Int32) : Int32 := if F_X10_hasPerson pe x = 0 then ((0 : Int32)) else (if F_X10_hasPerson pe y = 0 then ((0 : Int32)) else (if x = y then ((0 : Int32)) else ((1 : Int32))))
set_option maxHeartbeats 4000000 in
set_option maxRecDepth 100000 in
theorem K_X10_hasCouple (l : Launch) (g : GG) (v : Nat) (v3 : Nat) (v4 : Nat) (v5 : Nat) (v6 : Nat) (v7 : Nat) (v8 : Nat) (v9 : Nat) (v10 : Nat) (v11 : Nat) (v12 : Nat) (v13 : Nat) (v15 : Nat) (pe : Int32) (lc : Int32) (de : Int32) (gl : Int32) (x : Int32) (y : Int32)  : MetI l g yX10_hasCouple cX10_hasCouple 3 (some .boolean) 1 0 0 [.ref v, .int x, .int y] [(v, .inr (10, [.int pe, .int lc, .int de, .ref v3, .ref v4, .ref v5, .ref v6, .ref v7, .ref v8, .ref v9, .ref v10, .ref v11, .ref v12, .ref v13, .int gl, .ref v15]))] (fun r u => r = (F_X10_hasCouple pe x y) ∧ u = [(v, .inr (10, [.int pe, .int lc, .int de, .ref v3, .ref v4, .ref v5, .ref v6, .ref v7, .ref v8, .ref v9, .ref v10, .ref v11, .ref v12, .ref v13, .int gl, .ref v15]))]) := by
  refine MetI.of (own := RX10) rfl (by decide) (Nat.le_of_ble_eq_true rfl) ?_
  intro p e s m below meth c A ls args Q hQ X hr hin hW hl
  have hx := X.1
  have hb := X.2.1
  have hl : lv_has ls 3 [(0, .ref v), (1, .int x), (2, .int y)] := hl
  refine lv_aload_n (pc := 0) hx hb dX10_hasCouple_0 rfl (lv_at hl 0 rfl) ?_
  refine lv_iload_n (pc := 1) hx hb dX10_hasCouple_1 rfl (lv_at hl 1 rfl) ?_
  refine c_Vi (pc := 2) (As := [.int x]) (rest := []) (wr := []) X hW 0 ciX10 rfl (K_X10_hasPerson l g v v3 v4 v5 v6 v7 v8 v9 v10 v11 v12 v13 v15 pe lc de gl x) vX10_80 [0] [] rfl rfl rfl rfl rfl rfl hl.1 rfl (Nat.le_of_ble_eq_true rfl) ⟨Nat.le_of_ble_eq_true rfl, Nat.le_of_ble_eq_true rfl⟩ ⟨Nat.le_of_ble_eq_true rfl, Nat.le_of_ble_eq_true rfl⟩ dX10_hasCouple_2 (fun r1 u9 H locs hq hW => ?_)
  obtain ⟨rfl, rfl⟩ := hq
  have hW : WD g A s _ _ [(v, .inr (10, [.int pe, .int lc, .int de, .ref v3, .ref v4, .ref v5, .ref v6, .ref v7, .ref v8, .ref v9, .ref v10, .ref v11, .ref v12, .ref v13, .int gl, .ref v15]))] := hW
  refine lv_if_eq (tgt := 25) (pc := 5) hx hb dX10_hasCouple_5 rfl (fun c2 => ?_) (fun c2 => ?_)
  · refine lv_iconst (v := 0) (pc := 25) hx hb dX10_hasCouple_25 (by decide) ?_
    have hF : F_X10_hasCouple pe x y = (0 : Int32) := show F_X10_hasCouple pe x y = (0 : Int32) from by rw [F_X10_hasCouple, if_pos c2]
    exact e_z (u := [(v, .inr (10, [.int pe, .int lc, .int de, .ref v3, .ref v4, .ref v5, .ref v6, .ref v7, .ref v8, .ref v9, .ref v10, .ref v11, .ref v12, .ref v13, .int gl, .ref v15]))]) X hQ hr (hW) rfl [0] rfl rfl (⟨hF.symm, rfl⟩) ⟨Nat.le_of_ble_eq_true rfl, Nat.le_of_ble_eq_true rfl⟩ dX10_hasCouple_26
  · refine lv_aload_n (pc := 8) hx hb dX10_hasCouple_8 rfl (lv_at hl 0 rfl) ?_
    refine lv_iload_n (pc := 9) hx hb dX10_hasCouple_9 rfl (lv_at hl 2 rfl) ?_
    refine c_Vi (pc := 10) (As := [.int y]) (rest := []) (wr := []) X hW 0 ciX10 rfl (K_X10_hasPerson l g v v3 v4 v5 v6 v7 v8 v9 v10 v11 v12 v13 v15 pe lc de gl y) vX10_80 [0] [] rfl rfl rfl rfl rfl rfl hl.1 rfl (Nat.le_of_ble_eq_true rfl) ⟨Nat.le_of_ble_eq_true rfl, Nat.le_of_ble_eq_true rfl⟩ ⟨Nat.le_of_ble_eq_true rfl, Nat.le_of_ble_eq_true rfl⟩ dX10_hasCouple_10 (fun r5 u9 H locs hq hW => ?_)
    obtain ⟨rfl, rfl⟩ := hq
    have hW : WD g A s _ _ [(v, .inr (10, [.int pe, .int lc, .int de, .ref v3, .ref v4, .ref v5, .ref v6, .ref v7, .ref v8, .ref v9, .ref v10, .ref v11, .ref v12, .ref v13, .int gl, .ref v15]))] := hW
    refine lv_if_eq (tgt := 25) (pc := 13) hx hb dX10_hasCouple_13 rfl (fun c6 => ?_) (fun c6 => ?_)
    · refine lv_iconst (v := 0) (pc := 25) hx hb dX10_hasCouple_25 (by decide) ?_
      have hF : F_X10_hasCouple pe x y = (0 : Int32) := show F_X10_hasCouple pe x y = (0 : Int32) from by rw [F_X10_hasCouple, if_neg c2, if_pos c6]
      exact e_z (u := [(v, .inr (10, [.int pe, .int lc, .int de, .ref v3, .ref v4, .ref v5, .ref v6, .ref v7, .ref v8, .ref v9, .ref v10, .ref v11, .ref v12, .ref v13, .int gl, .ref v15]))]) X hQ hr (hW) rfl [0] rfl rfl (⟨hF.symm, rfl⟩) ⟨Nat.le_of_ble_eq_true rfl, Nat.le_of_ble_eq_true rfl⟩ dX10_hasCouple_26
    · refine lv_iload_n (pc := 16) hx hb dX10_hasCouple_16 rfl (lv_at hl 1 rfl) ?_
      refine lv_iload_n (pc := 17) hx hb dX10_hasCouple_17 rfl (lv_at hl 2 rfl) ?_
      refine lv_icmp_eq (tgt := 25) (pc := 18) hx hb dX10_hasCouple_18 rfl (fun c9 => ?_) (fun c9 => ?_)
      · refine lv_iconst (v := 0) (pc := 25) hx hb dX10_hasCouple_25 (by decide) ?_
        have hF : F_X10_hasCouple pe x y = (0 : Int32) := show F_X10_hasCouple pe x y = (0 : Int32) from by rw [F_X10_hasCouple, if_neg c2, if_neg c6, if_pos c9]
        exact e_z (u := [(v, .inr (10, [.int pe, .int lc, .int de, .ref v3, .ref v4, .ref v5, .ref v6, .ref v7, .ref v8, .ref v9, .ref v10, .ref v11, .ref v12, .ref v13, .int gl, .ref v15]))]) X hQ hr (hW) rfl [0] rfl rfl (⟨hF.symm, rfl⟩) ⟨Nat.le_of_ble_eq_true rfl, Nat.le_of_ble_eq_true rfl⟩ dX10_hasCouple_26
      · refine lv_iconst (v := 1) (pc := 21) hx hb dX10_hasCouple_21 (by decide) ?_
        refine lv_goto (tgt := 26) (pc := 22) hx hb dX10_hasCouple_22 rfl ?_
        have hF : F_X10_hasCouple pe x y = (1 : Int32) := show F_X10_hasCouple pe x y = (1 : Int32) from by rw [F_X10_hasCouple, if_neg c2, if_neg c6, if_neg c9]
        exact e_z (u := [(v, .inr (10, [.int pe, .int lc, .int de, .ref v3, .ref v4, .ref v5, .ref v6, .ref v7, .ref v8, .ref v9, .ref v10, .ref v11, .ref v12, .ref v13, .int gl, .ref v15]))]) X hQ hr (hW) rfl [0] rfl rfl (⟨hF.symm, rfl⟩) ⟨Nat.le_of_ble_eq_true rfl, Nat.le_of_ble_eq_true rfl⟩ dX10_hasCouple_26

def F_X10_hasLine (lc : Int32) (x : Int32) : Int32 := if x < 0 then ((0 : Int32)) else (if lc ≤ x then ((0 : Int32)) else ((1 : Int32)))
set_option maxHeartbeats 4000000 in
set_option maxRecDepth 100000 in
theorem K_X10_hasLine (l : Launch) (g : GG) (v : Nat) (v3 : Nat) (v4 : Nat) (v5 : Nat) (v6 : Nat) (v7 : Nat) (v8 : Nat) (v9 : Nat) (v10 : Nat) (v11 : Nat) (v12 : Nat) (v13 : Nat) (v15 : Nat) (pe : Int32) (lc : Int32) (de : Int32) (gl : Int32) (x : Int32)  : MetI l g yX10_hasLine cX10_hasLine 2 (some .boolean) 0 0 0 [.ref v, .int x] [(v, .inr (10, [.int pe, .int lc, .int de, .ref v3, .ref v4, .ref v5, .ref v6, .ref v7, .ref v8, .ref v9, .ref v10, .ref v11, .ref v12, .ref v13, .int gl, .ref v15]))] (fun r u => r = (F_X10_hasLine lc x) ∧ u = [(v, .inr (10, [.int pe, .int lc, .int de, .ref v3, .ref v4, .ref v5, .ref v6, .ref v7, .ref v8, .ref v9, .ref v10, .ref v11, .ref v12, .ref v13, .int gl, .ref v15]))]) := by
  refine MetI.of (own := RX10) rfl (by decide) (Nat.le_of_ble_eq_true rfl) ?_
  intro p e s m below meth c A ls args Q hQ X hr hin hW hl
  have hx := X.1
  have hb := X.2.1
  have hl : lv_has ls 2 [(0, .ref v), (1, .int x)] := hl
  refine lv_iload_n (pc := 0) hx hb dX10_hasLine_0 rfl (lv_at hl 1 rfl) ?_
  refine lv_if_lt (tgt := 16) (pc := 1) hx hb dX10_hasLine_1 rfl (fun c1 => ?_) (fun c1 => ?_)
  · refine lv_iconst (v := 0) (pc := 16) hx hb dX10_hasLine_16 (by decide) ?_
    have hF : F_X10_hasLine lc x = (0 : Int32) := show F_X10_hasLine lc x = (0 : Int32) from by rw [F_X10_hasLine, if_pos c1]
    exact e_z (u := [(v, .inr (10, [.int pe, .int lc, .int de, .ref v3, .ref v4, .ref v5, .ref v6, .ref v7, .ref v8, .ref v9, .ref v10, .ref v11, .ref v12, .ref v13, .int gl, .ref v15]))]) X hQ hr (hW) rfl [0] rfl rfl (⟨hF.symm, rfl⟩) ⟨Nat.le_of_ble_eq_true rfl, Nat.le_of_ble_eq_true rfl⟩ dX10_hasLine_17
  · refine lv_iload_n (pc := 4) hx hb dX10_hasLine_4 rfl (lv_at hl 1 rfl) ?_
    refine lv_aload_n (pc := 5) hx hb dX10_hasLine_5 rfl (lv_at hl 0 rfl) ?_
    refine r_get X hW 0 ciX10 1 rfl (by decide) m_280 rfl rfl dX10_hasLine_6 ?_
    refine lv_icmp_ge (tgt := 16) (pc := 9) hx hb dX10_hasLine_9 rfl (fun c4 => ?_) (fun c4 => ?_)
    · refine lv_iconst (v := 0) (pc := 16) hx hb dX10_hasLine_16 (by decide) ?_
      have hF : F_X10_hasLine lc x = (0 : Int32) := show F_X10_hasLine lc x = (0 : Int32) from by rw [F_X10_hasLine, if_neg c1, if_pos c4]
      exact e_z (u := [(v, .inr (10, [.int pe, .int lc, .int de, .ref v3, .ref v4, .ref v5, .ref v6, .ref v7, .ref v8, .ref v9, .ref v10, .ref v11, .ref v12, .ref v13, .int gl, .ref v15]))]) X hQ hr (hW) rfl [0] rfl rfl (⟨hF.symm, rfl⟩) ⟨Nat.le_of_ble_eq_true rfl, Nat.le_of_ble_eq_true rfl⟩ dX10_hasLine_17
    · refine lv_iconst (v := 1) (pc := 12) hx hb dX10_hasLine_12 (by decide) ?_
      refine lv_goto (tgt := 17) (pc := 13) hx hb dX10_hasLine_13 rfl ?_
      have hF : F_X10_hasLine lc x = (1 : Int32) := show F_X10_hasLine lc x = (1 : Int32) from by rw [F_X10_hasLine, if_neg c1, if_neg c4]
      exact e_z (u := [(v, .inr (10, [.int pe, .int lc, .int de, .ref v3, .ref v4, .ref v5, .ref v6, .ref v7, .ref v8, .ref v9, .ref v10, .ref v11, .ref v12, .ref v13, .int gl, .ref v15]))]) X hQ hr (hW) rfl [0] rfl rfl (⟨hF.symm, rfl⟩) ⟨Nat.le_of_ble_eq_true rfl, Nat.le_of_ble_eq_true rfl⟩ dX10_hasLine_17

def F_X10_callable (K : Nat → Int32) (o : Nat) (h : Nat) : Int32 := K (h * 7 + o)
set_option maxHeartbeats 4000000 in
set_option maxRecDepth 100000 in
theorem K_X10_callable (l : Launch) (g : GG) (v : Nat) (v3 : Nat) (v4 : Nat) (v5 : Nat) (v6 : Nat) (v7 : Nat) (v8 : Nat) (v9 : Nat) (v10 : Nat) (v11 : Nat) (v12 : Nat) (v13 : Nat) (v15 : Nat) (pe : Int32) (lc : Int32) (de : Int32) (gl : Int32) (K : Nat → Int32) (o : Nat) (h : Nat) (ho : o < 7) (hh : h ≤ 24) : MetI l g yX10_callable cX10_callable 3 (some .int) 0 0 0 [.ref v, .int (nI o), .int (nI h)] [(v, .inr (10, [.int pe, .int lc, .int de, .ref v3, .ref v4, .ref v5, .ref v6, .ref v7, .ref v8, .ref v9, .ref v10, .ref v11, .ref v12, .ref v13, .int gl, .ref v15])), (v10, .inl (g.2.1 1, 175, .inl K))] (fun r u => r = (F_X10_callable K o h) ∧ u = [(v, .inr (10, [.int pe, .int lc, .int de, .ref v3, .ref v4, .ref v5, .ref v6, .ref v7, .ref v8, .ref v9, .ref v10, .ref v11, .ref v12, .ref v13, .int gl, .ref v15])), (v10, .inl (g.2.1 1, 175, .inl K))]) := by
  refine MetI.of (own := RX10) rfl (by decide) (Nat.le_of_ble_eq_true rfl) ?_
  intro p e s m below meth c A ls args Q hQ X hr hin hW hl
  have hx := X.1
  have hb := X.2.1
  have hl : lv_has ls 3 [(0, .ref v), (1, .int (nI o)), (2, .int (nI h))] := hl
  refine lv_aload_n (pc := 0) hx hb dX10_callable_0 rfl (lv_at hl 0 rfl) ?_
  refine r_get X hW 0 ciX10 10 rfl (by decide) m_311 rfl rfl dX10_callable_1 ?_
  refine lv_iload_n (pc := 4) hx hb dX10_callable_4 rfl (lv_at hl 2 rfl) ?_
  refine lv_bipush (v := 7) (pc := 5) hx hb dX10_callable_5 (by decide) ?_
  refine lv_imul (pc := 7) hx hb dX10_callable_7 ?_
  refine lv_topi (fun v1 ev1 => ?_)
  obtain rfl : v1 = nI (h * 7) := ev1.trans (pk_mul h 7)
  refine lv_iload_n (pc := 8) hx hb dX10_callable_8 rfl (lv_at hl 1 rfl) ?_
  refine lv_iadd (pc := 9) hx hb dX10_callable_9 ?_
  refine lv_topi (fun v2 ev2 => ?_)
  obtain rfl : v2 = nI (h * 7 + o) := ev2.trans (nI_add _ _)
  refine r_iald X hW 1 rfl (vp_in_nI (by omega) (by decide)) dX10_callable_10 ?_
  refine lv_topi (fun v3 ev3 => ?_)
  obtain rfl : v3 = K (h * 7 + o) := ev3.trans (by rw [nI_clamp (by omega)])
  have hF : F_X10_callable K o h = K (h * 7 + o) := show F_X10_callable K o h = K (h * 7 + o) from rfl
  exact e_i (u := [(v, .inr (10, [.int pe, .int lc, .int de, .ref v3, .ref v4, .ref v5, .ref v6, .ref v7, .ref v8, .ref v9, .ref v10, .ref v11, .ref v12, .ref v13, .int gl, .ref v15])), (v10, .inl (g.2.1 1, 175, .inl K))]) X hQ hr (hW) [0, 1] rfl rfl (⟨hF.symm, rfl⟩) ⟨Nat.le_of_ble_eq_true rfl, Nat.le_of_ble_eq_true rfl⟩ dX10_callable_11

def F_X10_appendToCard (cd : Nat → Int32) (cl : Nat → Int32) (o : Nat) (y : Int32) : Int32 × (Nat → Int32) × (Nat → Int32) := if nI (tN (cl o)) < 6 then ((nI (tN (cl o) + 1), (upd cd (o * 6 + tN (cl o)) y), (upd cl o (nI (tN (cl o) + 1))))) else (((-1 : Int32), cd, cl))
set_option maxHeartbeats 4000000 in
set_option maxRecDepth 100000 in
theorem K_X10_appendToCard (l : Launch) (g : GG) (v : Nat) (v3 : Nat) (v4 : Nat) (v5 : Nat) (v6 : Nat) (v7 : Nat) (v8 : Nat) (v9 : Nat) (v10 : Nat) (v11 : Nat) (v12 : Nat) (v13 : Nat) (v15 : Nat) (pe : Int32) (lc : Int32) (de : Int32) (gl : Int32) (cd : Nat → Int32) (cl : Nat → Int32) (o : Nat) (y : Int32) (ho : o < 7) (hcl : ∀ j : Nat, j < 7 → cl j = nI (tN (cl j)) ∧ tN (cl j) ≤ 6) : MetI l g yX10_appendToCard cX10_appendToCard 4 (some .int) 0 0 0 [.ref v, .int (nI o), .int y] [(v, .inr (10, [.int pe, .int lc, .int de, .ref v3, .ref v4, .ref v5, .ref v6, .ref v7, .ref v8, .ref v9, .ref v10, .ref v11, .ref v12, .ref v13, .int gl, .ref v15])), (v11, .inl (g.2.1 1, 42, .inl cd)), (v12, .inl (g.2.1 1, 7, .inl cl))] (fun r u => r = (F_X10_appendToCard cd cl o y).1 ∧ u = [(v, .inr (10, [.int pe, .int lc, .int de, .ref v3, .ref v4, .ref v5, .ref v6, .ref v7, .ref v8, .ref v9, .ref v10, .ref v11, .ref v12, .ref v13, .int gl, .ref v15])), (v11, .inl (g.2.1 1, 42, .inl ((F_X10_appendToCard cd cl o y).2.1))), (v12, .inl (g.2.1 1, 7, .inl ((F_X10_appendToCard cd cl o y).2.2)))]) := by
  refine MetI.of (own := RX10) rfl (by decide) (Nat.le_of_ble_eq_true rfl) ?_
  intro p e s m below meth c A ls args Q hQ X hr hin hW hl
  have hx := X.1
  have hb := X.2.1
  have hl : lv_has ls 4 [(0, .ref v), (1, .int (nI o)), (2, .int y)] := hl
  refine lv_aload_n (pc := 0) hx hb dX10_appendToCard_0 rfl (lv_at hl 0 rfl) ?_
  refine r_get X hW 0 ciX10 12 rfl (by decide) m_313 rfl rfl dX10_appendToCard_1 ?_
  refine lv_iload_n (pc := 4) hx hb dX10_appendToCard_4 rfl (lv_at hl 1 rfl) ?_
  refine r_iald X hW 2 rfl (vp_in_nI (by omega) (by decide)) dX10_appendToCard_5 ?_
  refine lv_topi (fun v1 ev1 => ?_)
  obtain rfl : v1 = cl o := ev1.trans (by rw [nI_clamp (by omega)])
  have ek := hcl o ho
  rw [ek.1]
  have ek2 := ek.2
  refine lv_istore_n (lv' := [(3, .int (nI (tN (cl o)))), (0, .ref v), (1, .int (nI o)), (2, .int y)]) (pc := 6) hx hb dX10_appendToCard_6 rfl hl (by decide) rfl (fun ls hl => ?_)
  refine lv_iload_n (pc := 7) hx hb dX10_appendToCard_7 rfl (lv_at hl 0 rfl) ?_
  refine lv_bipush (v := 6) (pc := 8) hx hb dX10_appendToCard_8 (by decide) ?_
  refine lv_icmp_lt (tgt := 15) (pc := 10) hx hb dX10_appendToCard_10 rfl (fun c2 => ?_) (fun c2 => ?_)
  · have h3 : (tN (cl o)) < 6 := (nI_ltI (a := (tN (cl o))) (b := 6) (by omega) (by omega)).mp c2
    refine lv_aload_n (pc := 15) hx hb dX10_appendToCard_15 rfl (lv_at hl 1 rfl) ?_
    refine r_get X hW 0 ciX10 11 rfl (by decide) m_312 rfl rfl dX10_appendToCard_16 ?_
    refine lv_iload_n (pc := 19) hx hb dX10_appendToCard_19 rfl (lv_at hl 2 rfl) ?_
    refine lv_bipush (v := 6) (pc := 20) hx hb dX10_appendToCard_20 (by decide) ?_
    refine lv_imul (pc := 22) hx hb dX10_appendToCard_22 ?_
    refine lv_topi (fun v4 ev4 => ?_)
    obtain rfl : v4 = nI (o * 6) := ev4.trans (pk_mul o 6)
    refine lv_iload_n (pc := 23) hx hb dX10_appendToCard_23 rfl (lv_at hl 0 rfl) ?_
    refine lv_iadd (pc := 24) hx hb dX10_appendToCard_24 ?_
    refine lv_topi (fun v5 ev5 => ?_)
    obtain rfl : v5 = nI (o * 6 + tN (cl o)) := ev5.trans (nI_add _ _)
    refine lv_iload_n (pc := 25) hx hb dX10_appendToCard_25 rfl (lv_at hl 3 rfl) ?_
    refine r_iast (ws' := [(v, .inr (10, [.int pe, .int lc, .int de, .ref v3, .ref v4, .ref v5, .ref v6, .ref v7, .ref v8, .ref v9, .ref v10, .ref v11, .ref v12, .ref v13, .int gl, .ref v15])), (v11, .inl (g.2.1 1, 42, .inl (upd cd (o * 6 + tN (cl o)) y))), (v12, .inl (g.2.1 1, 7, .inl cl))]) X hW 1 rfl (vp_in_nI (by omega) (by decide)) (f' := (upd cd (o * 6 + tN (cl o)) y)) (by rw [nI_clamp (by omega)]) rfl dX10_appendToCard_26 (fun H locs hW => ?_)
    refine lv_aload_n (pc := 27) hx hb dX10_appendToCard_27 rfl (lv_at hl 1 rfl) ?_
    refine r_get X hW 0 ciX10 12 rfl (by decide) m_313 rfl rfl dX10_appendToCard_28 ?_
    refine lv_iload_n (pc := 31) hx hb dX10_appendToCard_31 rfl (lv_at hl 2 rfl) ?_
    refine lv_iload_n (pc := 32) hx hb dX10_appendToCard_32 rfl (lv_at hl 0 rfl) ?_
    refine lv_iconst (v := 1) (pc := 33) hx hb dX10_appendToCard_33 (by decide) ?_
    refine lv_iadd (pc := 34) hx hb dX10_appendToCard_34 ?_
    refine lv_topi (fun v6 ev6 => ?_)
    obtain rfl : v6 = nI (tN (cl o) + 1) := ev6.trans (nI_add (tN (cl o)) 1)
    refine r_iast (ws' := [(v, .inr (10, [.int pe, .int lc, .int de, .ref v3, .ref v4, .ref v5, .ref v6, .ref v7, .ref v8, .ref v9, .ref v10, .ref v11, .ref v12, .ref v13, .int gl, .ref v15])), (v11, .inl (g.2.1 1, 42, .inl (upd cd (o * 6 + tN (cl o)) y))), (v12, .inl (g.2.1 1, 7, .inl (upd cl o (nI (tN (cl o) + 1)))))]) X hW 2 rfl (vp_in_nI (by omega) (by decide)) (f' := (upd cl o (nI (tN (cl o) + 1)))) (by rw [nI_clamp (by omega)]) rfl dX10_appendToCard_35 (fun H locs hW => ?_)
    refine lv_iload_n (pc := 36) hx hb dX10_appendToCard_36 rfl (lv_at hl 0 rfl) ?_
    refine lv_iconst (v := 1) (pc := 37) hx hb dX10_appendToCard_37 (by decide) ?_
    refine lv_iadd (pc := 38) hx hb dX10_appendToCard_38 ?_
    refine lv_topi (fun v7 ev7 => ?_)
    obtain rfl : v7 = nI (tN (cl o) + 1) := ev7.trans (nI_add (tN (cl o)) 1)
    have hF : F_X10_appendToCard cd cl o y = (nI (tN (cl o) + 1), (upd cd (o * 6 + tN (cl o)) y), (upd cl o (nI (tN (cl o) + 1)))) := show F_X10_appendToCard cd cl o y = (nI (tN (cl o) + 1), (upd cd (o * 6 + tN (cl o)) y), (upd cl o (nI (tN (cl o) + 1)))) from by rw [F_X10_appendToCard, if_pos c2]
    exact e_i (u := [(v, .inr (10, [.int pe, .int lc, .int de, .ref v3, .ref v4, .ref v5, .ref v6, .ref v7, .ref v8, .ref v9, .ref v10, .ref v11, .ref v12, .ref v13, .int gl, .ref v15])), (v11, .inl (g.2.1 1, 42, .inl (upd cd (o * 6 + tN (cl o)) y))), (v12, .inl (g.2.1 1, 7, .inl (upd cl o (nI (tN (cl o) + 1)))))]) X hQ hr (hW) [0, 1, 2] rfl rfl (⟨(congrArg Prod.fst hF).symm, by rw [hF]⟩) ⟨Nat.le_of_ble_eq_true rfl, Nat.le_of_ble_eq_true rfl⟩ dX10_appendToCard_39
  · have h8 : ¬ ((tN (cl o)) < 6) := fun q => c2 ((nI_ltI (a := (tN (cl o))) (b := 6) (by omega) (by omega)).mpr q)
    refine lv_iconst (v := (-1)) (pc := 13) hx hb dX10_appendToCard_13 (by decide) ?_
    have hF : F_X10_appendToCard cd cl o y = ((-1 : Int32), cd, cl) := show F_X10_appendToCard cd cl o y = ((-1 : Int32), cd, cl) from by rw [F_X10_appendToCard, if_neg c2]
    exact e_i (u := [(v, .inr (10, [.int pe, .int lc, .int de, .ref v3, .ref v4, .ref v5, .ref v6, .ref v7, .ref v8, .ref v9, .ref v10, .ref v11, .ref v12, .ref v13, .int gl, .ref v15])), (v11, .inl (g.2.1 1, 42, .inl cd)), (v12, .inl (g.2.1 1, 7, .inl cl))]) X hQ hr (hW) [0, 1, 2] rfl rfl (⟨(congrArg Prod.fst hF).symm, by rw [hF]⟩) ⟨Nat.le_of_ble_eq_true rfl, Nat.le_of_ble_eq_true rfl⟩ dX10_appendToCard_14

def F_X10_emptyCards  : (Nat → Int32) := (fun _ => 0)
set_option maxHeartbeats 4000000 in
set_option maxRecDepth 100000 in
theorem K_X10_emptyCards (l : Launch) (g : GG) (v : Nat) (v3 : Nat) (v4 : Nat) (v5 : Nat) (v6 : Nat) (v7 : Nat) (v8 : Nat) (v9 : Nat) (v10 : Nat) (v11 : Nat) (v12 : Nat) (v13 : Nat) (v15 : Nat) (pe : Int32) (lc : Int32) (de : Int32) (gl : Int32) (cl : Nat → Int32)  : MetV l g yX10_emptyCards cX10_emptyCards 1 none 1 0 0 [.ref v] [(v, .inr (10, [.int pe, .int lc, .int de, .ref v3, .ref v4, .ref v5, .ref v6, .ref v7, .ref v8, .ref v9, .ref v10, .ref v11, .ref v12, .ref v13, .int gl, .ref v15])), (v12, .inl (g.2.1 1, 7, .inl cl))] (fun u => u = [(v, .inr (10, [.int pe, .int lc, .int de, .ref v3, .ref v4, .ref v5, .ref v6, .ref v7, .ref v8, .ref v9, .ref v10, .ref v11, .ref v12, .ref v13, .int gl, .ref v15])), (v12, .inl (g.2.1 1, 7, .inl (F_X10_emptyCards)))]) := by
  refine MetV.of (own := RX10) rfl (by decide) (Nat.le_of_ble_eq_true rfl) ?_
  intro p e s m below meth c A ls args Q hQ X hr hin hW hl
  have hx := X.1
  have hb := X.2.1
  have hl : lv_has ls 1 [(0, .ref v)] := hl
  refine lv_aload_n (pc := 0) hx hb dX10_emptyCards_0 rfl (lv_at hl 0 rfl) ?_
  refine r_get X hW 0 ciX10 12 rfl (by decide) m_313 rfl rfl dX10_emptyCards_1 ?_
  refine lv_iconst (v := 0) (pc := 4) hx hb dX10_emptyCards_4 (by decide) ?_
  refine c_Sv (pc := 5) (As := [.ref v12, .int 0]) (rest := []) (wr := [(v, .inr (10, [.int pe, .int lc, .int de, .ref v3, .ref v4, .ref v5, .ref v6, .ref v7, .ref v8, .ref v9, .ref v10, .ref v11, .ref v12, .ref v13, .int gl, .ref v15]))]) X hW (C_J7_fillE l g v12 7 cl 0 (by decide)) vX10_63 [1] [0] rfl rfl rfl rfl rfl rfl hl.1 rfl (Nat.le_of_ble_eq_true rfl) ⟨Nat.le_of_ble_eq_true rfl, Nat.le_of_ble_eq_true rfl⟩ ⟨Nat.le_of_ble_eq_true rfl, Nat.le_of_ble_eq_true rfl⟩ dX10_emptyCards_5 (fun u9 H locs hq hW => ?_)
  obtain rfl := hq
  have hW : WD g A s _ _ [(v, .inr (10, [.int pe, .int lc, .int de, .ref v3, .ref v4, .ref v5, .ref v6, .ref v7, .ref v8, .ref v9, .ref v10, .ref v11, .ref v12, .ref v13, .int gl, .ref v15])), (v12, .inl (g.2.1 1, 7, .inl (fun _ => 0)))] := hW
  have hF : F_X10_emptyCards = (fun _ => 0) := show F_X10_emptyCards = (fun _ => 0) from rfl
  exact e_v (u := [(v, .inr (10, [.int pe, .int lc, .int de, .ref v3, .ref v4, .ref v5, .ref v6, .ref v7, .ref v8, .ref v9, .ref v10, .ref v11, .ref v12, .ref v13, .int gl, .ref v15])), (v12, .inl (g.2.1 1, 7, .inl (fun _ => 0)))]) X hQ hr (hW) [0, 1] rfl rfl (by rw [hF]) ⟨Nat.le_of_ble_eq_true rfl, Nat.le_of_ble_eq_true rfl⟩ dX10_emptyCards_8

def F_X10_setTale (ta : Nat → Int32) (n : Nat) (o : Nat) (h : Int32) : (Nat → Int32) := (upd ta (n * 7 + o) h)
set_option maxHeartbeats 4000000 in
set_option maxRecDepth 100000 in
theorem K_X10_setTale (l : Launch) (g : GG) (v : Nat) (v3 : Nat) (v4 : Nat) (v5 : Nat) (v6 : Nat) (v7 : Nat) (v8 : Nat) (v9 : Nat) (v10 : Nat) (v11 : Nat) (v12 : Nat) (v13 : Nat) (v15 : Nat) (pe : Int32) (lc : Int32) (de : Int32) (gl : Int32) (ta : Nat → Int32) (n : Nat) (o : Nat) (h : Int32) (hn : n < 4) (ho : o < 7) : MetV l g yX10_setTale cX10_setTale 4 none 0 0 0 [.ref v, .int (nI n), .int (nI o), .int h] [(v, .inr (10, [.int pe, .int lc, .int de, .ref v3, .ref v4, .ref v5, .ref v6, .ref v7, .ref v8, .ref v9, .ref v10, .ref v11, .ref v12, .ref v13, .int gl, .ref v15])), (v13, .inl (g.2.1 1, 28, .inl ta))] (fun u => u = [(v, .inr (10, [.int pe, .int lc, .int de, .ref v3, .ref v4, .ref v5, .ref v6, .ref v7, .ref v8, .ref v9, .ref v10, .ref v11, .ref v12, .ref v13, .int gl, .ref v15])), (v13, .inl (g.2.1 1, 28, .inl (F_X10_setTale ta n o h)))]) := by
  refine MetV.of (own := RX10) rfl (by decide) (Nat.le_of_ble_eq_true rfl) ?_
  intro p e s m below meth c A ls args Q hQ X hr hin hW hl
  have hx := X.1
  have hb := X.2.1
  have hl : lv_has ls 4 [(0, .ref v), (1, .int (nI n)), (2, .int (nI o)), (3, .int h)] := hl
  refine lv_aload_n (pc := 0) hx hb dX10_setTale_0 rfl (lv_at hl 0 rfl) ?_
  refine r_get X hW 0 ciX10 13 rfl (by decide) m_314 rfl rfl dX10_setTale_1 ?_
  refine lv_iload_n (pc := 4) hx hb dX10_setTale_4 rfl (lv_at hl 1 rfl) ?_
  refine lv_bipush (v := 7) (pc := 5) hx hb dX10_setTale_5 (by decide) ?_
  refine lv_imul (pc := 7) hx hb dX10_setTale_7 ?_
  refine lv_topi (fun v1 ev1 => ?_)
  obtain rfl : v1 = nI (n * 7) := ev1.trans (pk_mul n 7)
  refine lv_iload_n (pc := 8) hx hb dX10_setTale_8 rfl (lv_at hl 2 rfl) ?_
  refine lv_iadd (pc := 9) hx hb dX10_setTale_9 ?_
  refine lv_topi (fun v2 ev2 => ?_)
  obtain rfl : v2 = nI (n * 7 + o) := ev2.trans (nI_add _ _)
  refine lv_iload_n (pc := 10) hx hb dX10_setTale_10 rfl (lv_at hl 3 rfl) ?_
  refine r_iast (ws' := [(v, .inr (10, [.int pe, .int lc, .int de, .ref v3, .ref v4, .ref v5, .ref v6, .ref v7, .ref v8, .ref v9, .ref v10, .ref v11, .ref v12, .ref v13, .int gl, .ref v15])), (v13, .inl (g.2.1 1, 28, .inl (upd ta (n * 7 + o) h)))]) X hW 1 rfl (vp_in_nI (by omega) (by decide)) (f' := (upd ta (n * 7 + o) h)) (by rw [nI_clamp (by omega)]) rfl dX10_setTale_11 (fun H locs hW => ?_)
  have hF : F_X10_setTale ta n o h = (upd ta (n * 7 + o) h) := show F_X10_setTale ta n o h = (upd ta (n * 7 + o) h) from rfl
  exact e_v (u := [(v, .inr (10, [.int pe, .int lc, .int de, .ref v3, .ref v4, .ref v5, .ref v6, .ref v7, .ref v8, .ref v9, .ref v10, .ref v11, .ref v12, .ref v13, .int gl, .ref v15])), (v13, .inl (g.2.1 1, 28, .inl (upd ta (n * 7 + o) h)))]) X hQ hr (hW) [0, 1] rfl rfl (by rw [hF]) ⟨Nat.le_of_ble_eq_true rfl, Nat.le_of_ble_eq_true rfl⟩ dX10_setTale_12

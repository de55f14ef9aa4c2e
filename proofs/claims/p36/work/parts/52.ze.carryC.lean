theorem dX1_tell_0 : decode cX1_tell 0 = .ok (.iload_n 2, 1) := DX1_tell _ _ _ rfl
theorem dX1_tell_1 : decode cX1_tell 1 = .ok (.aload_n 0, 1) := DX1_tell _ _ _ rfl
theorem dX1_tell_2 : decode cX1_tell 2 = .ok (.getfield 9, 3) := DX1_tell _ _ _ rfl
theorem dX1_tell_5 : decode cX1_tell 5 = .ok (.iload_n 1, 1) := DX1_tell _ _ _ rfl
theorem dX1_tell_6 : decode cX1_tell 6 = .ok (.iaload, 1) := DX1_tell _ _ _ rfl
theorem dX1_tell_7 : decode cX1_tell 7 = .ok (.iconst (-1), 1) := DX1_tell _ _ _ rfl
theorem dX1_tell_8 : decode cX1_tell 8 = .ok (.ixor, 1) := DX1_tell _ _ _ rfl
theorem dX1_tell_9 : decode cX1_tell 9 = .ok (.iand, 1) := DX1_tell _ _ _ rfl
theorem dX1_tell_10 : decode cX1_tell 10 = .ok (.istore_n 3, 1) := DX1_tell _ _ _ rfl
theorem dX1_tell_11 : decode cX1_tell 11 = .ok (.aload_n 0, 1) := DX1_tell _ _ _ rfl
theorem dX1_tell_12 : decode cX1_tell 12 = .ok (.getfield 37, 3) := DX1_tell _ _ _ rfl
theorem dX1_tell_15 : decode cX1_tell 15 = .ok (.iload_n 1, 1) := DX1_tell _ _ _ rfl
theorem dX1_tell_16 : decode cX1_tell 16 = .ok (.invokestatic 84, 3) := DX1_tell _ _ _ rfl
theorem dX1_tell_19 : decode cX1_tell 19 = .ok (.ifCond .eq 14, 3) := DX1_tell _ _ _ rfl
theorem dX1_tell_33 : decode cX1_tell 33 = .ok (.iload_n 3, 1) := DX1_tell _ _ _ rfl
theorem dX1_tell_34 : decode cX1_tell 34 = .ok (.istore 4, 2) := DX1_tell _ _ _ rfl
theorem dX1_tell_36 : decode cX1_tell 36 = .ok (.aload_n 0, 1) := DX1_tell _ _ _ rfl
theorem dX1_tell_37 : decode cX1_tell 37 = .ok (.getfield 9, 3) := DX1_tell _ _ _ rfl
theorem dX1_tell_40 : decode cX1_tell 40 = .ok (.iload_n 1, 1) := DX1_tell _ _ _ rfl
theorem dX1_tell_41 : decode cX1_tell 41 = .ok (.dup2, 1) := DX1_tell _ _ _ rfl
theorem dX1_tell_42 : decode cX1_tell 42 = .ok (.iaload, 1) := DX1_tell _ _ _ rfl
theorem dX1_tell_43 : decode cX1_tell 43 = .ok (.iload 4, 2) := DX1_tell _ _ _ rfl
theorem dX1_tell_45 : decode cX1_tell 45 = .ok (.ior, 1) := DX1_tell _ _ _ rfl
theorem dX1_tell_46 : decode cX1_tell 46 = .ok (.iastore, 1) := DX1_tell _ _ _ rfl
theorem dX1_tell_47 : decode cX1_tell 47 = .ok (.aload_n 0, 1) := DX1_tell _ _ _ rfl
theorem dX1_tell_48 : decode cX1_tell 48 = .ok (.getfield 15, 3) := DX1_tell _ _ _ rfl
theorem dX1_tell_51 : decode cX1_tell 51 = .ok (.iload_n 1, 1) := DX1_tell _ _ _ rfl
theorem dX1_tell_52 : decode cX1_tell 52 = .ok (.aload_n 0, 1) := DX1_tell _ _ _ rfl
theorem dX1_tell_53 : decode cX1_tell 53 = .ok (.getfield 15, 3) := DX1_tell _ _ _ rfl
theorem dX1_tell_56 : decode cX1_tell 56 = .ok (.iload_n 1, 1) := DX1_tell _ _ _ rfl
theorem dX1_tell_57 : decode cX1_tell 57 = .ok (.iaload, 1) := DX1_tell _ _ _ rfl
theorem dX1_tell_58 : decode cX1_tell 58 = .ok (.iload_n 3, 1) := DX1_tell _ _ _ rfl
theorem dX1_tell_59 : decode cX1_tell 59 = .ok (.ior, 1) := DX1_tell _ _ _ rfl
theorem dX1_tell_60 : decode cX1_tell 60 = .ok (.aload_n 0, 1) := DX1_tell _ _ _ rfl
theorem dX1_tell_61 : decode cX1_tell 61 = .ok (.getfield 9, 3) := DX1_tell _ _ _ rfl
theorem dX1_tell_64 : decode cX1_tell 64 = .ok (.iload_n 1, 1) := DX1_tell _ _ _ rfl
theorem dX1_tell_65 : decode cX1_tell 65 = .ok (.iaload, 1) := DX1_tell _ _ _ rfl
theorem dX1_tell_66 : decode cX1_tell 66 = .ok (.iconst (-1), 1) := DX1_tell _ _ _ rfl
theorem dX1_tell_67 : decode cX1_tell 67 = .ok (.ixor, 1) := DX1_tell _ _ _ rfl
theorem dX1_tell_68 : decode cX1_tell 68 = .ok (.iand, 1) := DX1_tell _ _ _ rfl
theorem dX1_tell_69 : decode cX1_tell 69 = .ok (.iastore, 1) := DX1_tell _ _ _ rfl
theorem dX1_tell_70 : decode cX1_tell 70 = .ok (.iload_n 3, 1) := DX1_tell _ _ _ rfl
theorem dX1_tell_71 : decode cX1_tell 71 = .ok (.ifCond .eq 7, 3) := DX1_tell _ _ _ rfl
theorem dX1_tell_78 : decode cX1_tell 78 = .ok (.iconst 0, 1) := DX1_tell _ _ _ rfl
theorem dX1_tell_79 : decode cX1_tell 79 = .ok (.ireturn, 1) := DX1_tell _ _ _ rfl
theorem dX1_tell_74 : decode cX1_tell 74 = .ok (.iconst 1, 1) := DX1_tell _ _ _ rfl
theorem dX1_tell_75 : decode cX1_tell 75 = .ok (.goto 4, 3) := DX1_tell _ _ _ rfl
theorem dX1_tell_22 : decode cX1_tell 22 = .ok (.iload_n 3, 1) := DX1_tell _ _ _ rfl
theorem dX1_tell_23 : decode cX1_tell 23 = .ok (.aload_n 0, 1) := DX1_tell _ _ _ rfl
theorem dX1_tell_24 : decode cX1_tell 24 = .ok (.getfield 15, 3) := DX1_tell _ _ _ rfl
theorem dX1_tell_27 : decode cX1_tell 27 = .ok (.iload_n 1, 1) := DX1_tell _ _ _ rfl
theorem dX1_tell_28 : decode cX1_tell 28 = .ok (.iaload, 1) := DX1_tell _ _ _ rfl
theorem dX1_tell_29 : decode cX1_tell 29 = .ok (.iand, 1) := DX1_tell _ _ _ rfl
theorem dX1_tell_30 : decode cX1_tell 30 = .ok (.goto 4, 3) := DX1_tell _ _ _ rfl
theorem dX1_shout_0 : decode cX1_shout 0 = .ok (.iconst 0, 1) := DX1_shout _ _ _ rfl
theorem dX1_shout_1 : decode cX1_shout 1 = .ok (.istore 4, 2) := DX1_shout _ _ _ rfl
theorem dX1_shout_3 : decode cX1_shout 3 = .ok (.iconst 0, 1) := DX1_shout _ _ _ rfl
theorem dX1_shout_4 : decode cX1_shout 4 = .ok (.istore 5, 2) := DX1_shout _ _ _ rfl
theorem dX1_shout_6 : decode cX1_shout 6 = .ok (.iload 5, 2) := DX1_shout _ _ _ rfl
theorem dX1_shout_8 : decode cX1_shout 8 = .ok (.bipush 7, 2) := DX1_shout _ _ _ rfl
theorem dX1_shout_10 : decode cX1_shout 10 = .ok (.if_icmp .ge 42, 3) := DX1_shout _ _ _ rfl
theorem dX1_shout_52 : decode cX1_shout 52 = .ok (.iload 4, 2) := DX1_shout _ _ _ rfl
theorem dX1_shout_54 : decode cX1_shout 54 = .ok (.ireturn, 1) := DX1_shout _ _ _ rfl
theorem dX1_shout_13 : decode cX1_shout 13 = .ok (.iload_n 2, 1) := DX1_shout _ _ _ rfl
theorem dX1_shout_14 : decode cX1_shout 14 = .ok (.iload 5, 2) := DX1_shout _ _ _ rfl
theorem dX1_shout_16 : decode cX1_shout 16 = .ok (.invokestatic 84, 3) := DX1_shout _ _ _ rfl
theorem dX1_shout_19 : decode cX1_shout 19 = .ok (.ifCond .eq 27, 3) := DX1_shout _ _ _ rfl
theorem dX1_shout_46 : decode cX1_shout 46 = .ok (.iinc 5 1, 3) := DX1_shout _ _ _ rfl
theorem dX1_shout_49 : decode cX1_shout 49 = .ok (.goto (-43), 3) := DX1_shout _ _ _ rfl
theorem dX1_shout_22 : decode cX1_shout 22 = .ok (.iload 5, 2) := DX1_shout _ _ _ rfl
theorem dX1_shout_24 : decode cX1_shout 24 = .ok (.iload_n 3, 1) := DX1_shout _ _ _ rfl
theorem dX1_shout_25 : decode cX1_shout 25 = .ok (.if_icmp .eq 21, 3) := DX1_shout _ _ _ rfl
theorem dX1_shout_28 : decode cX1_shout 28 = .ok (.aload_n 0, 1) := DX1_shout _ _ _ rfl
theorem dX1_shout_29 : decode cX1_shout 29 = .ok (.iload 5, 2) := DX1_shout _ _ _ rfl
theorem dX1_shout_31 : decode cX1_shout 31 = .ok (.aload_n 0, 1) := DX1_shout _ _ _ rfl
theorem dX1_shout_32 : decode cX1_shout 32 = .ok (.getfield 9, 3) := DX1_shout _ _ _ rfl
theorem dX1_shout_35 : decode cX1_shout 35 = .ok (.iload_n 1, 1) := DX1_shout _ _ _ rfl
theorem dX1_shout_36 : decode cX1_shout 36 = .ok (.iaload, 1) := DX1_shout _ _ _ rfl
theorem dX1_shout_37 : decode cX1_shout 37 = .ok (.invokevirtual 77, 3) := DX1_shout _ _ _ rfl
theorem dX1_shout_40 : decode cX1_shout 40 = .ok (.ifCond .eq 6, 3) := DX1_shout _ _ _ rfl
theorem dX1_shout_43 : decode cX1_shout 43 = .ok (.iconst 1, 1) := DX1_shout _ _ _ rfl
theorem dX1_shout_44 : decode cX1_shout 44 = .ok (.istore 4, 2) := DX1_shout _ _ _ rfl
theorem dX1_carry_0 : decode cX1_carry 0 = .ok (.aload_n 0, 1) := DX1_carry _ _ _ rfl
theorem dX1_carry_1 : decode cX1_carry 1 = .ok (.aload_n 1, 1) := DX1_carry _ _ _ rfl
theorem dX1_carry_2 : decode cX1_carry 2 = .ok (.getfield 27, 3) := DX1_carry _ _ _ rfl
theorem dX1_carry_5 : decode cX1_carry 5 = .ok (.getfield 31, 3) := DX1_carry _ _ _ rfl
theorem dX1_carry_8 : decode cX1_carry 8 = .ok (.putfield 37, 3) := DX1_carry _ _ _ rfl
theorem dX1_carry_11 : decode cX1_carry 11 = .ok (.aload_n 0, 1) := DX1_carry _ _ _ rfl
theorem dX1_carry_12 : decode cX1_carry 12 = .ok (.lconst 0, 1) := DX1_carry _ _ _ rfl
theorem dX1_carry_13 : decode cX1_carry 13 = .ok (.putfield 38, 3) := DX1_carry _ _ _ rfl
theorem dX1_carry_16 : decode cX1_carry 16 = .ok (.iconst 0, 1) := DX1_carry _ _ _ rfl
theorem dX1_carry_17 : decode cX1_carry 17 = .ok (.istore 6, 2) := DX1_carry _ _ _ rfl
theorem dX1_carry_19 : decode cX1_carry 19 = .ok (.iload 6, 2) := DX1_carry _ _ _ rfl
theorem dX1_carry_21 : decode cX1_carry 21 = .ok (.bipush 7, 2) := DX1_carry _ _ _ rfl
theorem dX1_carry_23 : decode cX1_carry 23 = .ok (.if_icmp .ge 34, 3) := DX1_carry _ _ _ rfl
theorem dX1_carry_57 : decode cX1_carry 57 = .ok (.iconst 0, 1) := DX1_carry _ _ _ rfl
theorem dX1_carry_58 : decode cX1_carry 58 = .ok (.istore 6, 2) := DX1_carry _ _ _ rfl
theorem dX1_carry_60 : decode cX1_carry 60 = .ok (.iload 6, 2) := DX1_carry _ _ _ rfl
theorem dX1_carry_62 : decode cX1_carry 62 = .ok (.aload_n 1, 1) := DX1_carry _ _ _ rfl
theorem dX1_carry_63 : decode cX1_carry 63 = .ok (.getfield 45, 3) := DX1_carry _ _ _ rfl
theorem dX1_carry_66 : decode cX1_carry 66 = .ok (.if_icmp .ge 76, 3) := DX1_carry _ _ _ rfl
theorem dX1_carry_142 : decode cX1_carry 142 = .ok (.return_, 1) := DX1_carry _ _ _ rfl
theorem dX1_carry_69 : decode cX1_carry 69 = .ok (.aload_n 1, 1) := DX1_carry _ _ _ rfl
theorem dX1_carry_70 : decode cX1_carry 70 = .ok (.getfield 48, 3) := DX1_carry _ _ _ rfl
theorem dX1_carry_73 : decode cX1_carry 73 = .ok (.iload 6, 2) := DX1_carry _ _ _ rfl
theorem dX1_carry_75 : decode cX1_carry 75 = .ok (.iaload, 1) := DX1_carry _ _ _ rfl
theorem dX1_carry_76 : decode cX1_carry 76 = .ok (.istore 7, 2) := DX1_carry _ _ _ rfl
theorem dX1_carry_78 : decode cX1_carry 78 = .ok (.aload_n 1, 1) := DX1_carry _ _ _ rfl
theorem dX1_carry_79 : decode cX1_carry 79 = .ok (.getfield 51, 3) := DX1_carry _ _ _ rfl
theorem dX1_carry_82 : decode cX1_carry 82 = .ok (.iload 7, 2) := DX1_carry _ _ _ rfl
theorem dX1_carry_84 : decode cX1_carry 84 = .ok (.iaload, 1) := DX1_carry _ _ _ rfl
theorem dX1_carry_85 : decode cX1_carry 85 = .ok (.iload_n 2, 1) := DX1_carry _ _ _ rfl
theorem dX1_carry_86 : decode cX1_carry 86 = .ok (.if_icmp .le 4, 3) := DX1_carry _ _ _ rfl
theorem dX1_carry_90 : decode cX1_carry 90 = .ok (.aload_n 1, 1) := DX1_carry _ _ _ rfl
theorem dX1_carry_91 : decode cX1_carry 91 = .ok (.getfield 54, 3) := DX1_carry _ _ _ rfl
theorem dX1_carry_94 : decode cX1_carry 94 = .ok (.iload 7, 2) := DX1_carry _ _ _ rfl
theorem dX1_carry_96 : decode cX1_carry 96 = .ok (.iaload, 1) := DX1_carry _ _ _ rfl
theorem dX1_carry_97 : decode cX1_carry 97 = .ok (.ifCond .ne 39, 3) := DX1_carry _ _ _ rfl
theorem dX1_carry_136 : decode cX1_carry 136 = .ok (.iinc 6 1, 3) := DX1_carry _ _ _ rfl
theorem dX1_carry_139 : decode cX1_carry 139 = .ok (.goto (-79), 3) := DX1_carry _ _ _ rfl
theorem dX1_carry_100 : decode cX1_carry 100 = .ok (.lload_n 3, 1) := DX1_carry _ _ _ rfl
theorem dX1_carry_101 : decode cX1_carry 101 = .ok (.iload 7, 2) := DX1_carry _ _ _ rfl
theorem dX1_carry_103 : decode cX1_carry 103 = .ok (.lshr, 1) := DX1_carry _ _ _ rfl
theorem dX1_carry_104 : decode cX1_carry 104 = .ok (.lconst 1, 1) := DX1_carry _ _ _ rfl
theorem dX1_carry_105 : decode cX1_carry 105 = .ok (.land, 1) := DX1_carry _ _ _ rfl
theorem dX1_carry_106 : decode cX1_carry 106 = .ok (.lconst 0, 1) := DX1_carry _ _ _ rfl
theorem dX1_carry_107 : decode cX1_carry 107 = .ok (.lcmp, 1) := DX1_carry _ _ _ rfl
theorem dX1_carry_108 : decode cX1_carry 108 = .ok (.ifCond .ne 28, 3) := DX1_carry _ _ _ rfl
theorem dX1_carry_111 : decode cX1_carry 111 = .ok (.aload_n 0, 1) := DX1_carry _ _ _ rfl
theorem dX1_carry_112 : decode cX1_carry 112 = .ok (.aload_n 1, 1) := DX1_carry _ _ _ rfl
theorem dX1_carry_113 : decode cX1_carry 113 = .ok (.iload 7, 2) := DX1_carry _ _ _ rfl
theorem dX1_carry_115 : decode cX1_carry 115 = .ok (.iload 5, 2) := DX1_carry _ _ _ rfl
theorem dX1_carry_117 : decode cX1_carry 117 = .ok (.invokevirtual 57, 3) := DX1_carry _ _ _ rfl
theorem dX1_carry_120 : decode cX1_carry 120 = .ok (.ifCond .eq 16, 3) := DX1_carry _ _ _ rfl
theorem dX1_carry_123 : decode cX1_carry 123 = .ok (.aload_n 0, 1) := DX1_carry _ _ _ rfl
theorem dX1_carry_124 : decode cX1_carry 124 = .ok (.dup, 1) := DX1_carry _ _ _ rfl
theorem dX1_carry_125 : decode cX1_carry 125 = .ok (.getfield 38, 3) := DX1_carry _ _ _ rfl
theorem dX1_carry_128 : decode cX1_carry 128 = .ok (.lconst 1, 1) := DX1_carry _ _ _ rfl
theorem dX1_carry_129 : decode cX1_carry 129 = .ok (.iload 7, 2) := DX1_carry _ _ _ rfl
theorem dX1_carry_131 : decode cX1_carry 131 = .ok (.lshl, 1) := DX1_carry _ _ _ rfl
theorem dX1_carry_132 : decode cX1_carry 132 = .ok (.lor, 1) := DX1_carry _ _ _ rfl
theorem dX1_carry_133 : decode cX1_carry 133 = .ok (.putfield 38, 3) := DX1_carry _ _ _ rfl
theorem dX1_carry_89 : decode cX1_carry 89 = .ok (.return_, 1) := DX1_carry _ _ _ rfl
theorem dX1_carry_26 : decode cX1_carry 26 = .ok (.aload_n 0, 1) := DX1_carry _ _ _ rfl
theorem dX1_carry_27 : decode cX1_carry 27 = .ok (.getfield 9, 3) := DX1_carry _ _ _ rfl
theorem dX1_carry_30 : decode cX1_carry 30 = .ok (.iload 6, 2) := DX1_carry _ _ _ rfl
theorem dX1_carry_32 : decode cX1_carry 32 = .ok (.aload_n 1, 1) := DX1_carry _ _ _ rfl
theorem dX1_carry_33 : decode cX1_carry 33 = .ok (.getfield 27, 3) := DX1_carry _ _ _ rfl
theorem dX1_carry_36 : decode cX1_carry 36 = .ok (.getfield 42, 3) := DX1_carry _ _ _ rfl
theorem dX1_carry_39 : decode cX1_carry 39 = .ok (.iload 6, 2) := DX1_carry _ _ _ rfl
theorem dX1_carry_41 : decode cX1_carry 41 = .ok (.iaload, 1) := DX1_carry _ _ _ rfl
theorem dX1_carry_42 : decode cX1_carry 42 = .ok (.iastore, 1) := DX1_carry _ _ _ rfl
theorem dX1_carry_43 : decode cX1_carry 43 = .ok (.aload_n 0, 1) := DX1_carry _ _ _ rfl
theorem dX1_carry_44 : decode cX1_carry 44 = .ok (.getfield 15, 3) := DX1_carry _ _ _ rfl
theorem dX1_carry_47 : decode cX1_carry 47 = .ok (.iload 6, 2) := DX1_carry _ _ _ rfl
theorem dX1_carry_49 : decode cX1_carry 49 = .ok (.iconst 0, 1) := DX1_carry _ _ _ rfl
theorem dX1_carry_50 : decode cX1_carry 50 = .ok (.iastore, 1) := DX1_carry _ _ _ rfl
theorem dX1_carry_51 : decode cX1_carry 51 = .ok (.iinc 6 1, 3) := DX1_carry _ _ _ rfl
theorem dX1_carry_54 : decode cX1_carry 54 = .ok (.goto (-35), 3) := DX1_carry _ _ _ rfl
theorem dX1_carryAll_0 : decode cX1_carryAll 0 = .ok (.aload_n 1, 1) := DX1_carryAll _ _ _ rfl
theorem dX1_carryAll_1 : decode cX1_carryAll 1 = .ok (.invokevirtual 18, 3) := DX1_carryAll _ _ _ rfl
theorem dX1_carryAll_4 : decode cX1_carryAll 4 = .ok (.aload_n 0, 1) := DX1_carryAll _ _ _ rfl
theorem dX1_carryAll_5 : decode cX1_carryAll 5 = .ok (.aload_n 1, 1) := DX1_carryAll _ _ _ rfl
theorem dX1_carryAll_6 : decode cX1_carryAll 6 = .ok (.iload_n 2, 1) := DX1_carryAll _ _ _ rfl
theorem dX1_carryAll_7 : decode cX1_carryAll 7 = .ok (.lconst 0, 1) := DX1_carryAll _ _ _ rfl
theorem dX1_carryAll_8 : decode cX1_carryAll 8 = .ok (.iconst (-1), 1) := DX1_carryAll _ _ _ rfl
theorem dX1_carryAll_9 : decode cX1_carryAll 9 = .ok (.invokevirtual 23, 3) := DX1_carryAll _ _ _ rfl
theorem dX1_carryAll_12 : decode cX1_carryAll 12 = .ok (.return_, 1) := DX1_carryAll _ _ _ rfl
theorem nz_of {x : Int32} (h : x = 0 ∨ x = 1) : narrow .boolean (.int x) = .int x := by
  rcases h with h | h <;> subst h <;> rfl
def F_X1_tell (yd : Int32) (kN : Nat → Int32) (tO : Nat → Int32) (o : Nat) (nw : Int32) : Int32 × (Nat → Int32) × (Nat → Int32) := if hasv yd (nI o) = 0 then (if nw &&& ((kN o) ^^^ (-1 : Int32)) = 0 then (((0 : Int32), (upd kN o ((kN o) ||| (nw &&& ((kN o) ^^^ (-1 : Int32))))), (upd tO o (((tO o) ||| (nw &&& ((kN o) ^^^ (-1 : Int32)))) &&& (((upd kN o ((kN o) ||| (nw &&& ((kN o) ^^^ (-1 : Int32))))) o) ^^^ (-1 : Int32)))))) else (((1 : Int32), (upd kN o ((kN o) ||| (nw &&& ((kN o) ^^^ (-1 : Int32))))), (upd tO o (((tO o) ||| (nw &&& ((kN o) ^^^ (-1 : Int32)))) &&& (((upd kN o ((kN o) ||| (nw &&& ((kN o) ^^^ (-1 : Int32))))) o) ^^^ (-1 : Int32))))))) else (if nw &&& ((kN o) ^^^ (-1 : Int32)) = 0 then (((0 : Int32), (upd kN o ((kN o) ||| ((nw &&& ((kN o) ^^^ (-1 : Int32))) &&& (tO o)))), (upd tO o (((tO o) ||| (nw &&& ((kN o) ^^^ (-1 : Int32)))) &&& (((upd kN o ((kN o) ||| ((nw &&& ((kN o) ^^^ (-1 : Int32))) &&& (tO o)))) o) ^^^ (-1 : Int32)))))) else (((1 : Int32), (upd kN o ((kN o) ||| ((nw &&& ((kN o) ^^^ (-1 : Int32))) &&& (tO o)))), (upd tO o (((tO o) ||| (nw &&& ((kN o) ^^^ (-1 : Int32)))) &&& (((upd kN o ((kN o) ||| ((nw &&& ((kN o) ^^^ (-1 : Int32))) &&& (tO o)))) o) ^^^ (-1 : Int32)))))))
theorem F_X1_tell_z {yd : Int32} {kN : Nat → Int32} {tO : Nat → Int32} {o : Nat} {nw : Int32} : narrow .boolean (.int ((F_X1_tell yd kN tO o nw).1)) = .int ((F_X1_tell yd kN tO o nw).1) := by unfold F_X1_tell; (repeat' split) <;> first | rfl | (dsimp only; rfl) | exact hasv_z .. | (dsimp only; exact hasv_z ..)
set_option maxHeartbeats 4000000 in
set_option maxRecDepth 100000 in
theorem K_X1_tell (l : Launch) (g : GG) (y0 : Nat) (yk : Nat) (yt : Nat) (yd : Int32) (yu : Int64) (yb : Int64) (kN : Nat → Int32) (tO : Nat → Int32) (o : Nat) (nw : Int32) (ho : o < 7) : MetI l g yX1_tell cX1_tell 5 (some .boolean) 1 0 0 [.ref y0, .int (nI o), .int nw] [(y0, .inr (1, [.ref yk, .ref yt, .int yd, .long yu, .long yb])), (yk, .inl (g.2.1 1, 7, .inl kN)), (yt, .inl (g.2.1 1, 7, .inl tO))] (fun r u => r = (F_X1_tell yd kN tO o nw).1 ∧ u = [(y0, .inr (1, [.ref yk, .ref yt, .int yd, .long yu, .long yb])), (yk, .inl (g.2.1 1, 7, .inl ((F_X1_tell yd kN tO o nw).2.1))), (yt, .inl (g.2.1 1, 7, .inl ((F_X1_tell yd kN tO o nw).2.2)))]) := by
  refine MetI.of (own := RX1) rfl (by decide) (Nat.le_of_ble_eq_true rfl) ?_
  intro p e s m below meth c A ls args Q hQ X hr hin hW hl
  have hx := X.1
  have hb := X.2.1
  have hl : lv_has ls 5 [(0, .ref y0), (1, .int (nI o)), (2, .int nw)] := hl
  refine lv_iload_n (pc := 0) hx hb dX1_tell_0 rfl (lv_at hl 2 rfl) ?_
  refine lv_aload_n (pc := 1) hx hb dX1_tell_1 rfl (lv_at hl 0 rfl) ?_
  refine r_get X hW 0 ciX1 0 rfl (by decide) m_58 rfl rfl dX1_tell_2 ?_
  refine lv_iload_n (pc := 5) hx hb dX1_tell_5 rfl (lv_at hl 1 rfl) ?_
  refine r_iald X hW 1 rfl (vp_in_nI (by omega) (by decide)) dX1_tell_6 ?_
  refine lv_topi (fun v1 ev1 => ?_)
  obtain rfl : v1 = kN o := ev1.trans (by rw [nI_clamp (by omega)])
  refine lv_iconst (v := (-1)) (pc := 7) hx hb dX1_tell_7 (by decide) ?_
  refine lv_ixor (pc := 8) hx hb dX1_tell_8 ?_
  refine lv_iand (pc := 9) hx hb dX1_tell_9 ?_
  refine lv_istore_n (lv' := [(3, .int (nw &&& ((kN o) ^^^ (-1 : Int32)))), (0, .ref y0), (1, .int (nI o)), (2, .int nw)]) (pc := 10) hx hb dX1_tell_10 rfl hl (by decide) rfl (fun ls hl => ?_)
  refine lv_aload_n (pc := 11) hx hb dX1_tell_11 rfl (lv_at hl 1 rfl) ?_
  refine r_get X hW 0 ciX1 2 rfl (by decide) m_61 rfl rfl dX1_tell_12 ?_
  refine lv_iload_n (pc := 15) hx hb dX1_tell_15 rfl (lv_at hl 2 rfl) ?_
  refine c_SNi (pc := 16) (As := [.int yd, .int (nI o)]) (rest := []) (wr := [(y0, .inr (1, [.ref yk, .ref yt, .int yd, .long yu, .long yb])), (yk, .inl (g.2.1 1, 7, .inl kN)), (yt, .inl (g.2.1 1, 7, .inl tO))]) X hW (C_X11_has l g yd (nI o)) vX1_84 [] [0, 1, 2] rfl rfl rfl rfl rfl rfl hl.1 rfl (Nat.le_of_ble_eq_true rfl) ⟨Nat.le_of_ble_eq_true rfl, Nat.le_of_ble_eq_true rfl⟩ ⟨Nat.le_of_ble_eq_true rfl, Nat.le_of_ble_eq_true rfl⟩ dX1_tell_16 (fun r2 u9 H locs hq hW => ?_)
  obtain ⟨rfl, rfl⟩ := hq
  have hW : WD g A s _ _ [(y0, .inr (1, [.ref yk, .ref yt, .int yd, .long yu, .long yb])), (yk, .inl (g.2.1 1, 7, .inl kN)), (yt, .inl (g.2.1 1, 7, .inl tO))] := hW
  refine lv_if_eq (tgt := 33) (pc := 19) hx hb dX1_tell_19 rfl (fun c3 => ?_) (fun c3 => ?_)
  · refine lv_iload_n (pc := 33) hx hb dX1_tell_33 rfl (lv_at hl 0 rfl) ?_
    refine lv_istore (lv' := [(4, .int (nw &&& ((kN o) ^^^ (-1 : Int32)))), (3, .int (nw &&& ((kN o) ^^^ (-1 : Int32)))), (0, .ref y0), (1, .int (nI o)), (2, .int nw)]) (pc := 34) hx hb dX1_tell_34 hl (by decide) rfl (fun ls hl => ?_)
    refine lv_aload_n (pc := 36) hx hb dX1_tell_36 rfl (lv_at hl 2 rfl) ?_
    refine r_get X hW 0 ciX1 0 rfl (by decide) m_58 rfl rfl dX1_tell_37 ?_
    refine lv_iload_n (pc := 40) hx hb dX1_tell_40 rfl (lv_at hl 3 rfl) ?_
    refine lv_dup2_11 (pc := 41) hx hb dX1_tell_41 rfl rfl ?_
    refine r_iald X hW 1 rfl (vp_in_nI (by omega) (by decide)) dX1_tell_42 ?_
    refine lv_topi (fun v5 ev5 => ?_)
    obtain rfl : v5 = kN o := ev5.trans (by rw [nI_clamp (by omega)])
    refine lv_iload (pc := 43) hx hb dX1_tell_43 (lv_at hl 0 rfl) ?_
    refine lv_ior (pc := 45) hx hb dX1_tell_45 ?_
    refine r_iast (ws' := [(y0, .inr (1, [.ref yk, .ref yt, .int yd, .long yu, .long yb])), (yk, .inl (g.2.1 1, 7, .inl (upd kN o ((kN o) ||| (nw &&& ((kN o) ^^^ (-1 : Int32))))))), (yt, .inl (g.2.1 1, 7, .inl tO))]) X hW 1 rfl (vp_in_nI (by omega) (by decide)) (f' := (upd kN o ((kN o) ||| (nw &&& ((kN o) ^^^ (-1 : Int32)))))) (by rw [nI_clamp (by omega)]) rfl dX1_tell_46 (fun H locs hW => ?_)
    refine lv_aload_n (pc := 47) hx hb dX1_tell_47 rfl (lv_at hl 2 rfl) ?_
    refine r_get X hW 0 ciX1 1 rfl (by decide) m_60 rfl rfl dX1_tell_48 ?_
    refine lv_iload_n (pc := 51) hx hb dX1_tell_51 rfl (lv_at hl 3 rfl) ?_
    refine lv_aload_n (pc := 52) hx hb dX1_tell_52 rfl (lv_at hl 2 rfl) ?_
    refine r_get X hW 0 ciX1 1 rfl (by decide) m_60 rfl rfl dX1_tell_53 ?_
    refine lv_iload_n (pc := 56) hx hb dX1_tell_56 rfl (lv_at hl 3 rfl) ?_
    refine r_iald X hW 2 rfl (vp_in_nI (by omega) (by decide)) dX1_tell_57 ?_
    refine lv_topi (fun v6 ev6 => ?_)
    obtain rfl : v6 = tO o := ev6.trans (by rw [nI_clamp (by omega)])
    refine lv_iload_n (pc := 58) hx hb dX1_tell_58 rfl (lv_at hl 1 rfl) ?_
    refine lv_ior (pc := 59) hx hb dX1_tell_59 ?_
    refine lv_aload_n (pc := 60) hx hb dX1_tell_60 rfl (lv_at hl 2 rfl) ?_
    refine r_get X hW 0 ciX1 0 rfl (by decide) m_58 rfl rfl dX1_tell_61 ?_
    refine lv_iload_n (pc := 64) hx hb dX1_tell_64 rfl (lv_at hl 3 rfl) ?_
    refine r_iald X hW 1 rfl (vp_in_nI (by omega) (by decide)) dX1_tell_65 ?_
    refine lv_topi (fun v7 ev7 => ?_)
    obtain rfl : v7 = (upd kN o ((kN o) ||| (nw &&& ((kN o) ^^^ (-1 : Int32))))) o := ev7.trans (by rw [nI_clamp (by omega)])
    refine lv_iconst (v := (-1)) (pc := 66) hx hb dX1_tell_66 (by decide) ?_
    refine lv_ixor (pc := 67) hx hb dX1_tell_67 ?_
    refine lv_iand (pc := 68) hx hb dX1_tell_68 ?_
    refine r_iast (ws' := [(y0, .inr (1, [.ref yk, .ref yt, .int yd, .long yu, .long yb])), (yk, .inl (g.2.1 1, 7, .inl (upd kN o ((kN o) ||| (nw &&& ((kN o) ^^^ (-1 : Int32))))))), (yt, .inl (g.2.1 1, 7, .inl (upd tO o (((tO o) ||| (nw &&& ((kN o) ^^^ (-1 : Int32)))) &&& (((upd kN o ((kN o) ||| (nw &&& ((kN o) ^^^ (-1 : Int32))))) o) ^^^ (-1 : Int32))))))]) X hW 2 rfl (vp_in_nI (by omega) (by decide)) (f' := (upd tO o (((tO o) ||| (nw &&& ((kN o) ^^^ (-1 : Int32)))) &&& (((upd kN o ((kN o) ||| (nw &&& ((kN o) ^^^ (-1 : Int32))))) o) ^^^ (-1 : Int32))))) (by rw [nI_clamp (by omega)]) rfl dX1_tell_69 (fun H locs hW => ?_)
    refine lv_iload_n (pc := 70) hx hb dX1_tell_70 rfl (lv_at hl 1 rfl) ?_
    refine lv_if_eq (tgt := 78) (pc := 71) hx hb dX1_tell_71 rfl (fun c8 => ?_) (fun c8 => ?_)
    · refine lv_iconst (v := 0) (pc := 78) hx hb dX1_tell_78 (by decide) ?_
      have hF : F_X1_tell yd kN tO o nw = ((0 : Int32), (upd kN o ((kN o) ||| (nw &&& ((kN o) ^^^ (-1 : Int32))))), (upd tO o (((tO o) ||| (nw &&& ((kN o) ^^^ (-1 : Int32)))) &&& (((upd kN o ((kN o) ||| (nw &&& ((kN o) ^^^ (-1 : Int32))))) o) ^^^ (-1 : Int32))))) := show F_X1_tell yd kN tO o nw = ((0 : Int32), (upd kN o ((kN o) ||| (nw &&& ((kN o) ^^^ (-1 : Int32))))), (upd tO o (((tO o) ||| (nw &&& ((kN o) ^^^ (-1 : Int32)))) &&& (((upd kN o ((kN o) ||| (nw &&& ((kN o) ^^^ (-1 : Int32))))) o) ^^^ (-1 : Int32))))) from by rw [F_X1_tell, if_pos c3, if_pos c8]
      exact e_z (u := [(y0, .inr (1, [.ref yk, .ref yt, .int yd, .long yu, .long yb])), (yk, .inl (g.2.1 1, 7, .inl (upd kN o ((kN o) ||| (nw &&& ((kN o) ^^^ (-1 : Int32))))))), (yt, .inl (g.2.1 1, 7, .inl (upd tO o (((tO o) ||| (nw &&& ((kN o) ^^^ (-1 : Int32)))) &&& (((upd kN o ((kN o) ||| (nw &&& ((kN o) ^^^ (-1 : Int32))))) o) ^^^ (-1 : Int32))))))]) X hQ hr (hW) rfl [0, 1, 2] rfl rfl (⟨(congrArg Prod.fst hF).symm, by rw [hF]⟩) ⟨Nat.le_of_ble_eq_true rfl, Nat.le_of_ble_eq_true rfl⟩ dX1_tell_79
    · refine lv_iconst (v := 1) (pc := 74) hx hb dX1_tell_74 (by decide) ?_
      refine lv_goto (tgt := 79) (pc := 75) hx hb dX1_tell_75 rfl ?_
      have hF : F_X1_tell yd kN tO o nw = ((1 : Int32), (upd kN o ((kN o) ||| (nw &&& ((kN o) ^^^ (-1 : Int32))))), (upd tO o (((tO o) ||| (nw &&& ((kN o) ^^^ (-1 : Int32)))) &&& (((upd kN o ((kN o) ||| (nw &&& ((kN o) ^^^ (-1 : Int32))))) o) ^^^ (-1 : Int32))))) := show F_X1_tell yd kN tO o nw = ((1 : Int32), (upd kN o ((kN o) ||| (nw &&& ((kN o) ^^^ (-1 : Int32))))), (upd tO o (((tO o) ||| (nw &&& ((kN o) ^^^ (-1 : Int32)))) &&& (((upd kN o ((kN o) ||| (nw &&& ((kN o) ^^^ (-1 : Int32))))) o) ^^^ (-1 : Int32))))) from by rw [F_X1_tell, if_pos c3, if_neg c8]
      exact e_z (u := [(y0, .inr (1, [.ref yk, .ref yt, .int yd, .long yu, .long yb])), (yk, .inl (g.2.1 1, 7, .inl (upd kN o ((kN o) ||| (nw &&& ((kN o) ^^^ (-1 : Int32))))))), (yt, .inl (g.2.1 1, 7, .inl (upd tO o (((tO o) ||| (nw &&& ((kN o) ^^^ (-1 : Int32)))) &&& (((upd kN o ((kN o) ||| (nw &&& ((kN o) ^^^ (-1 : Int32))))) o) ^^^ (-1 : Int32))))))]) X hQ hr (hW) rfl [0, 1, 2] rfl rfl (⟨(congrArg Prod.fst hF).symm, by rw [hF]⟩) ⟨Nat.le_of_ble_eq_true rfl, Nat.le_of_ble_eq_true rfl⟩ dX1_tell_79
  · refine lv_iload_n (pc := 22) hx hb dX1_tell_22 rfl (lv_at hl 0 rfl) ?_
    refine lv_aload_n (pc := 23) hx hb dX1_tell_23 rfl (lv_at hl 1 rfl) ?_
    refine r_get X hW 0 ciX1 1 rfl (by decide) m_60 rfl rfl dX1_tell_24 ?_
    refine lv_iload_n (pc := 27) hx hb dX1_tell_27 rfl (lv_at hl 2 rfl) ?_
    refine r_iald X hW 2 rfl (vp_in_nI (by omega) (by decide)) dX1_tell_28 ?_
    refine lv_topi (fun v12 ev12 => ?_)
    obtain rfl : v12 = tO o := ev12.trans (by rw [nI_clamp (by omega)])
    refine lv_iand (pc := 29) hx hb dX1_tell_29 ?_
    refine lv_goto (tgt := 34) (pc := 30) hx hb dX1_tell_30 rfl ?_
    refine lv_istore (lv' := [(4, .int ((nw &&& ((kN o) ^^^ (-1 : Int32))) &&& (tO o))), (3, .int (nw &&& ((kN o) ^^^ (-1 : Int32)))), (0, .ref y0), (1, .int (nI o)), (2, .int nw)]) (pc := 34) hx hb dX1_tell_34 hl (by decide) rfl (fun ls hl => ?_)
    refine lv_aload_n (pc := 36) hx hb dX1_tell_36 rfl (lv_at hl 2 rfl) ?_
    refine r_get X hW 0 ciX1 0 rfl (by decide) m_58 rfl rfl dX1_tell_37 ?_
    refine lv_iload_n (pc := 40) hx hb dX1_tell_40 rfl (lv_at hl 3 rfl) ?_
    refine lv_dup2_11 (pc := 41) hx hb dX1_tell_41 rfl rfl ?_
    refine r_iald X hW 1 rfl (vp_in_nI (by omega) (by decide)) dX1_tell_42 ?_
    refine lv_topi (fun v13 ev13 => ?_)
    obtain rfl : v13 = kN o := ev13.trans (by rw [nI_clamp (by omega)])
    refine lv_iload (pc := 43) hx hb dX1_tell_43 (lv_at hl 0 rfl) ?_
    refine lv_ior (pc := 45) hx hb dX1_tell_45 ?_
    refine r_iast (ws' := [(y0, .inr (1, [.ref yk, .ref yt, .int yd, .long yu, .long yb])), (yk, .inl (g.2.1 1, 7, .inl (upd kN o ((kN o) ||| ((nw &&& ((kN o) ^^^ (-1 : Int32))) &&& (tO o)))))), (yt, .inl (g.2.1 1, 7, .inl tO))]) X hW 1 rfl (vp_in_nI (by omega) (by decide)) (f' := (upd kN o ((kN o) ||| ((nw &&& ((kN o) ^^^ (-1 : Int32))) &&& (tO o))))) (by rw [nI_clamp (by omega)]) rfl dX1_tell_46 (fun H locs hW => ?_)
    refine lv_aload_n (pc := 47) hx hb dX1_tell_47 rfl (lv_at hl 2 rfl) ?_
    refine r_get X hW 0 ciX1 1 rfl (by decide) m_60 rfl rfl dX1_tell_48 ?_
    refine lv_iload_n (pc := 51) hx hb dX1_tell_51 rfl (lv_at hl 3 rfl) ?_
    refine lv_aload_n (pc := 52) hx hb dX1_tell_52 rfl (lv_at hl 2 rfl) ?_
    refine r_get X hW 0 ciX1 1 rfl (by decide) m_60 rfl rfl dX1_tell_53 ?_
    refine lv_iload_n (pc := 56) hx hb dX1_tell_56 rfl (lv_at hl 3 rfl) ?_
    refine r_iald X hW 2 rfl (vp_in_nI (by omega) (by decide)) dX1_tell_57 ?_
    refine lv_topi (fun v14 ev14 => ?_)
    obtain rfl : v14 = tO o := ev14.trans (by rw [nI_clamp (by omega)])
    refine lv_iload_n (pc := 58) hx hb dX1_tell_58 rfl (lv_at hl 1 rfl) ?_
    refine lv_ior (pc := 59) hx hb dX1_tell_59 ?_
    refine lv_aload_n (pc := 60) hx hb dX1_tell_60 rfl (lv_at hl 2 rfl) ?_
    refine r_get X hW 0 ciX1 0 rfl (by decide) m_58 rfl rfl dX1_tell_61 ?_
    refine lv_iload_n (pc := 64) hx hb dX1_tell_64 rfl (lv_at hl 3 rfl) ?_
    refine r_iald X hW 1 rfl (vp_in_nI (by omega) (by decide)) dX1_tell_65 ?_
    refine lv_topi (fun v15 ev15 => ?_)
    obtain rfl : v15 = (upd kN o ((kN o) ||| ((nw &&& ((kN o) ^^^ (-1 : Int32))) &&& (tO o)))) o := ev15.trans (by rw [nI_clamp (by omega)])
    refine lv_iconst (v := (-1)) (pc := 66) hx hb dX1_tell_66 (by decide) ?_
    refine lv_ixor (pc := 67) hx hb dX1_tell_67 ?_
    refine lv_iand (pc := 68) hx hb dX1_tell_68 ?_
    refine r_iast (ws' := [(y0, .inr (1, [.ref yk, .ref yt, .int yd, .long yu, .long yb])), (yk, .inl (g.2.1 1, 7, .inl (upd kN o ((kN o) ||| ((nw &&& ((kN o) ^^^ (-1 : Int32))) &&& (tO o)))))), (yt, .inl (g.2.1 1, 7, .inl (upd tO o (((tO o) ||| (nw &&& ((kN o) ^^^ (-1 : Int32)))) &&& (((upd kN o ((kN o) ||| ((nw &&& ((kN o) ^^^ (-1 : Int32))) &&& (tO o)))) o) ^^^ (-1 : Int32))))))]) X hW 2 rfl (vp_in_nI (by omega) (by decide)) (f' := (upd tO o (((tO o) ||| (nw &&& ((kN o) ^^^ (-1 : Int32)))) &&& (((upd kN o ((kN o) ||| ((nw &&& ((kN o) ^^^ (-1 : Int32))) &&& (tO o)))) o) ^^^ (-1 : Int32))))) (by rw [nI_clamp (by omega)]) rfl dX1_tell_69 (fun H locs hW => ?_)
    refine lv_iload_n (pc := 70) hx hb dX1_tell_70 rfl (lv_at hl 1 rfl) ?_
    refine lv_if_eq (tgt := 78) (pc := 71) hx hb dX1_tell_71 rfl (fun c16 => ?_) (fun c16 => ?_)
    · refine lv_iconst (v := 0) (pc := 78) hx hb dX1_tell_78 (by decide) ?_
      have hF : F_X1_tell yd kN tO o nw = ((0 : Int32), (upd kN o ((kN o) ||| ((nw &&& ((kN o) ^^^ (-1 : Int32))) &&& (tO o)))), (upd tO o (((tO o) ||| (nw &&& ((kN o) ^^^ (-1 : Int32)))) &&& (((upd kN o ((kN o) ||| ((nw &&& ((kN o) ^^^ (-1 : Int32))) &&& (tO o)))) o) ^^^ (-1 : Int32))))) := show F_X1_tell yd kN tO o nw = ((0 : Int32), (upd kN o ((kN o) ||| ((nw &&& ((kN o) ^^^ (-1 : Int32))) &&& (tO o)))), (upd tO o (((tO o) ||| (nw &&& ((kN o) ^^^ (-1 : Int32)))) &&& (((upd kN o ((kN o) ||| ((nw &&& ((kN o) ^^^ (-1 : Int32))) &&& (tO o)))) o) ^^^ (-1 : Int32))))) from by rw [F_X1_tell, if_neg c3, if_pos c16]
      exact e_z (u := [(y0, .inr (1, [.ref yk, .ref yt, .int yd, .long yu, .long yb])), (yk, .inl (g.2.1 1, 7, .inl (upd kN o ((kN o) ||| ((nw &&& ((kN o) ^^^ (-1 : Int32))) &&& (tO o)))))), (yt, .inl (g.2.1 1, 7, .inl (upd tO o (((tO o) ||| (nw &&& ((kN o) ^^^ (-1 : Int32)))) &&& (((upd kN o ((kN o) ||| ((nw &&& ((kN o) ^^^ (-1 : Int32))) &&& (tO o)))) o) ^^^ (-1 : Int32))))))]) X hQ hr (hW) rfl [0, 1, 2] rfl rfl (⟨(congrArg Prod.fst hF).symm, by rw [hF]⟩) ⟨Nat.le_of_ble_eq_true rfl, Nat.le_of_ble_eq_true rfl⟩ dX1_tell_79
    · refine lv_iconst (v := 1) (pc := 74) hx hb dX1_tell_74 (by decide) ?_
      refine lv_goto (tgt := 79) (pc := 75) hx hb dX1_tell_75 rfl ?_
      have hF : F_X1_tell yd kN tO o nw = ((1 : Int32), (upd kN o ((kN o) ||| ((nw &&& ((kN o) ^^^ (-1 : Int32))) &&& (tO o)))), (upd tO o (((tO o) ||| (nw &&& ((kN o) ^^^ (-1 : Int32)))) &&& (((upd kN o ((kN o) ||| ((nw &&& ((kN o) ^^^ (-1 : Int32))) &&& (tO o)))) o) ^^^ (-1 : Int32))))) := show F_X1_tell yd kN tO o nw = ((1 : Int32), (upd kN o ((kN o) ||| ((nw &&& ((kN o) ^^^ (-1 : Int32))) &&& (tO o)))), (upd tO o (((tO o) ||| (nw &&& ((kN o) ^^^ (-1 : Int32)))) &&& (((upd kN o ((kN o) ||| ((nw &&& ((kN o) ^^^ (-1 : Int32))) &&& (tO o)))) o) ^^^ (-1 : Int32))))) from by rw [F_X1_tell, if_neg c3, if_neg c16]
      exact e_z (u := [(y0, .inr (1, [.ref yk, .ref yt, .int yd, .long yu, .long yb])), (yk, .inl (g.2.1 1, 7, .inl (upd kN o ((kN o) ||| ((nw &&& ((kN o) ^^^ (-1 : Int32))) &&& (tO o)))))), (yt, .inl (g.2.1 1, 7, .inl (upd tO o (((tO o) ||| (nw &&& ((kN o) ^^^ (-1 : Int32)))) &&& (((upd kN o ((kN o) ||| ((nw &&& ((kN o) ^^^ (-1 : Int32))) &&& (tO o)))) o) ^^^ (-1 : Int32))))))]) X hQ hr (hW) rfl [0, 1, 2] rfl rfl (⟨(congrArg Prod.fst hF).symm, by rw [hF]⟩) ⟨Nat.le_of_ble_eq_true rfl, Nat.le_of_ble_eq_true rfl⟩ dX1_tell_79

def L1_X1_shouts (yd : Int32) (ca : Nat) (ot : Int32) (wo : Int32) (j1 : Nat) (x4_1 : Int32) (fyk_1 : Nat → Int32) (fyt_1 : Nat → Int32) : Int32 × (Nat → Int32) × (Nat → Int32) := if hasv ot (nI j1) = 0 then ((x4_1, fyk_1, fyt_1)) else (if nI j1 = wo then ((x4_1, fyk_1, fyt_1)) else (if (F_X1_tell yd fyk_1 fyt_1 j1 (fyk_1 ca)).1 = 0 then ((x4_1, ((F_X1_tell yd fyk_1 fyt_1 j1 (fyk_1 ca)).2.1), ((F_X1_tell yd fyk_1 fyt_1 j1 (fyk_1 ca)).2.2))) else (((1 : Int32), ((F_X1_tell yd fyk_1 fyt_1 j1 (fyk_1 ca)).2.1), ((F_X1_tell yd fyk_1 fyt_1 j1 (fyk_1 ca)).2.2)))))
def L1_X1_shout (yd : Int32) (ca : Nat) (ot : Int32) (wo : Int32) (i0_ : Int32) (i1_ : Nat → Int32) (i2_ : Nat → Int32) : Nat → Int32 × (Nat → Int32) × (Nat → Int32)
  | 0 => (i0_, i1_, i2_)
  | k_ + 1 => L1_X1_shouts yd ca ot wo k_ ((L1_X1_shout yd ca ot wo i0_ i1_ i2_ k_).1) ((L1_X1_shout yd ca ot wo i0_ i1_ i2_ k_).2.1) ((L1_X1_shout yd ca ot wo i0_ i1_ i2_ k_).2.2)
theorem L1_X1_shout_01 {yd : Int32} {ca : Nat} {ot wo : Int32} {kN tO : Nat → Int32} : ∀ k : Nat, (L1_X1_shout yd ca ot wo 0 kN tO k).1 = 0 ∨ (L1_X1_shout yd ca ot wo 0 kN tO k).1 = 1
  | 0 => Or.inl rfl
  | k + 1 => by
    have ih := L1_X1_shout_01 (yd := yd) (ca := ca) (ot := ot) (wo := wo) (kN := kN) (tO := tO) k
    rw [L1_X1_shout, L1_X1_shouts]
    by_cases h1 : hasv ot (nI k) = 0
    · rw [if_pos h1]; exact ih
    · rw [if_neg h1]
      by_cases h2 : nI k = wo
      · rw [if_pos h2]; exact ih
      · rw [if_neg h2]
        split
        · exact ih
        · exact Or.inr rfl
theorem L1_X1_shout_z {yd : Int32} {ca : Nat} {ot wo : Int32} {kN tO : Nat → Int32} {k : Nat} : narrow .boolean (.int (L1_X1_shout yd ca ot wo 0 kN tO k).1) = .int (L1_X1_shout yd ca ot wo 0 kN tO k).1 := nz_of (L1_X1_shout_01 k)
def F_X1_shout (yd : Int32) (kN : Nat → Int32) (tO : Nat → Int32) (ca : Nat) (ot : Int32) (wo : Int32) : Int32 × (Nat → Int32) × (Nat → Int32) := (((L1_X1_shout yd ca ot wo (0 : Int32) kN tO 7).1), ((L1_X1_shout yd ca ot wo (0 : Int32) kN tO 7).2.1), ((L1_X1_shout yd ca ot wo (0 : Int32) kN tO 7).2.2))
theorem F_X1_shout_z {yd : Int32} {kN : Nat → Int32} {tO : Nat → Int32} {ca : Nat} {ot : Int32} {wo : Int32} : narrow .boolean (.int ((F_X1_shout yd kN tO ca ot wo).1)) = .int ((F_X1_shout yd kN tO ca ot wo).1) := by unfold F_X1_shout; (repeat' split) <;> first | rfl | (dsimp only; rfl) | exact L1_X1_shout_z .. | (dsimp only; exact L1_X1_shout_z ..)
set_option maxHeartbeats 4000000 in
set_option maxRecDepth 100000 in
theorem K_X1_shout (l : Launch) (g : GG) (y0 : Nat) (yk : Nat) (yt : Nat) (yd : Int32) (yu : Int64) (yb : Int64) (kN : Nat → Int32) (tO : Nat → Int32) (ca : Nat) (ot : Int32) (wo : Int32) (hca : ca < 7) : MetI l g yX1_shout cX1_shout 6 (some .boolean) 2 0 0 [.ref y0, .int (nI ca), .int ot, .int wo] [(y0, .inr (1, [.ref yk, .ref yt, .int yd, .long yu, .long yb])), (yk, .inl (g.2.1 1, 7, .inl kN)), (yt, .inl (g.2.1 1, 7, .inl tO))] (fun r u => r = (F_X1_shout yd kN tO ca ot wo).1 ∧ u = [(y0, .inr (1, [.ref yk, .ref yt, .int yd, .long yu, .long yb])), (yk, .inl (g.2.1 1, 7, .inl ((F_X1_shout yd kN tO ca ot wo).2.1))), (yt, .inl (g.2.1 1, 7, .inl ((F_X1_shout yd kN tO ca ot wo).2.2)))]) := by
  refine MetI.of (own := RX1) rfl (by decide) (Nat.le_of_ble_eq_true rfl) ?_
  intro p e s m below meth c A ls args Q hQ X hr hin hW hl
  have hx := X.1
  have hb := X.2.1
  have hl : lv_has ls 6 [(0, .ref y0), (1, .int (nI ca)), (2, .int ot), (3, .int wo)] := hl
  refine lv_iconst (v := 0) (pc := 0) hx hb dX1_shout_0 (by decide) ?_
  refine lv_istore (lv' := [(4, .int 0), (0, .ref y0), (1, .int (nI ca)), (2, .int ot), (3, .int wo)]) (pc := 1) hx hb dX1_shout_1 hl (by decide) rfl (fun ls hl => ?_)
  refine lv_iconst (v := 0) (pc := 3) hx hb dX1_shout_3 (by decide) ?_
  refine lv_istore (lv' := [(5, .int 0), (4, .int 0), (0, .ref y0), (1, .int (nI ca)), (2, .int ot), (3, .int wo)]) (pc := 4) hx hb dX1_shout_4 hl (by decide) rfl (fun ls hl => ?_)
  have loop1 : ∀ (fu1 : Nat) (j1 : Nat) (x4_1 : Int32) (fyk_1 : Nat → Int32) (fyt_1 : Nat → Int32), (7 < fu1 + j1) → (j1 ≤ 7) → ((x4_1, fyk_1, fyt_1) = L1_X1_shout yd ca ot wo (0 : Int32) kN tO j1) → ∀ (H : Heap) (locs : List Loc) (ls : Array Slot), WD g A s H locs [(y0, .inr (1, [.ref yk, .ref yt, .int yd, .long yu, .long yb])), (yk, .inl (g.2.1 1, 7, .inl fyk_1)), (yt, .inl (g.2.1 1, 7, .inl fyt_1))] → lv_has ls 6 [(5, .int (nI j1)), (4, .int x4_1), (0, .ref y0), (1, .int (nI ca)), (2, .int ot), (3, .int wo)] → W p l e (RM 2 0 0) s m args below meth c H locs 0 0 Q (F0 m 6 ls []) := by
    intro fu1
    induction fu1 with
    | zero =>
      intro j1 x4_1 fyk_1 fyt_1 hm1 hj1 hst1
      exact absurd hm1 (by omega)
    | succ fu1 ih1 =>
      intro j1 x4_1 fyk_1 fyt_1 hm1 hj1 hst1 H locs ls hW hl
      refine lv_iload (pc := 6) hx hb dX1_shout_6 (lv_at hl 0 rfl) ?_
      refine lv_bipush (v := 7) (pc := 8) hx hb dX1_shout_8 (by decide) ?_
      refine lv_icmp_ge (tgt := 52) (pc := 10) hx hb dX1_shout_10 rfl (fun c1 => ?_) (fun c1 => ?_)
      · have h2 : 7 ≤ j1 := (nI_leI (a := 7) (b := j1) (by omega) (by omega)).mp c1
        have hN1 : j1 = 7 := by omega
        rw [hN1] at hst1
        have hs1_0 : x4_1 = (L1_X1_shout yd ca ot wo (0 : Int32) kN tO 7).1 := congrArg (fun z => z.1) hst1
        have hs1_1 : fyk_1 = (L1_X1_shout yd ca ot wo (0 : Int32) kN tO 7).2.1 := congrArg (fun z => z.2.1) hst1
        have hs1_2 : fyt_1 = (L1_X1_shout yd ca ot wo (0 : Int32) kN tO 7).2.2 := congrArg (fun z => z.2.2) hst1
        clear hst1
        subst hs1_0
        subst hs1_1
        subst hs1_2
        have hW : WD g A s _ _ [(y0, .inr (1, [.ref yk, .ref yt, .int yd, .long yu, .long yb])), (yk, .inl (g.2.1 1, 7, .inl ((L1_X1_shout yd ca ot wo (0 : Int32) kN tO 7).2.1))), (yt, .inl (g.2.1 1, 7, .inl ((L1_X1_shout yd ca ot wo (0 : Int32) kN tO 7).2.2)))] := hW
        refine lv_iload (pc := 52) hx hb dX1_shout_52 (lv_at hl 1 rfl) ?_
        have hF : F_X1_shout yd kN tO ca ot wo = (((L1_X1_shout yd ca ot wo (0 : Int32) kN tO 7).1), ((L1_X1_shout yd ca ot wo (0 : Int32) kN tO 7).2.1), ((L1_X1_shout yd ca ot wo (0 : Int32) kN tO 7).2.2)) := show F_X1_shout yd kN tO ca ot wo = (((L1_X1_shout yd ca ot wo (0 : Int32) kN tO 7).1), ((L1_X1_shout yd ca ot wo (0 : Int32) kN tO 7).2.1), ((L1_X1_shout yd ca ot wo (0 : Int32) kN tO 7).2.2)) from rfl
        exact e_z (u := [(y0, .inr (1, [.ref yk, .ref yt, .int yd, .long yu, .long yb])), (yk, .inl (g.2.1 1, 7, .inl ((L1_X1_shout yd ca ot wo (0 : Int32) kN tO 7).2.1))), (yt, .inl (g.2.1 1, 7, .inl ((L1_X1_shout yd ca ot wo (0 : Int32) kN tO 7).2.2)))]) X hQ hr (hW) (L1_X1_shout_z ..) [0, 1, 2] rfl rfl (⟨(congrArg Prod.fst hF).symm, by rw [hF]⟩) ⟨Nat.le_of_ble_eq_true rfl, Nat.le_of_ble_eq_true rfl⟩ dX1_shout_54
      · have h3 : ¬ (7 ≤ j1) := fun q => c1 ((nI_leI (a := 7) (b := j1) (by omega) (by omega)).mpr q)
        refine lv_iload_n (pc := 13) hx hb dX1_shout_13 rfl (lv_at hl 4 rfl) ?_
        refine lv_iload (pc := 14) hx hb dX1_shout_14 (lv_at hl 0 rfl) ?_
        refine c_SNi (pc := 16) (As := [.int ot, .int (nI j1)]) (rest := []) (wr := [(y0, .inr (1, [.ref yk, .ref yt, .int yd, .long yu, .long yb])), (yk, .inl (g.2.1 1, 7, .inl fyk_1)), (yt, .inl (g.2.1 1, 7, .inl fyt_1))]) X hW (C_X11_has l g ot (nI j1)) vX1_84 [] [0, 1, 2] rfl rfl rfl rfl rfl rfl hl.1 rfl (Nat.le_of_ble_eq_true rfl) ⟨Nat.le_of_ble_eq_true rfl, Nat.le_of_ble_eq_true rfl⟩ ⟨Nat.le_of_ble_eq_true rfl, Nat.le_of_ble_eq_true rfl⟩ dX1_shout_16 (fun r4 u9 H locs hq hW => ?_)
        obtain ⟨rfl, rfl⟩ := hq
        have hW : WD g A s _ _ [(y0, .inr (1, [.ref yk, .ref yt, .int yd, .long yu, .long yb])), (yk, .inl (g.2.1 1, 7, .inl fyk_1)), (yt, .inl (g.2.1 1, 7, .inl fyt_1))] := hW
        refine lv_if_eq (tgt := 46) (pc := 19) hx hb dX1_shout_19 rfl (fun c5 => ?_) (fun c5 => ?_)
        · refine lv_iinc (v := nI (j1 + 1)) (lv' := [(5, .int (nI (j1 + 1))), (4, .int x4_1), (0, .ref y0), (1, .int (nI ca)), (2, .int ot), (3, .int wo)]) (pc := 46) hx hb dX1_shout_46 hl (k := 0) rfl (nI_add j1 1) (by decide) rfl (fun ls hl => ?_)
          refine lv_goto (tgt := 6) (pc := 49) hx hb dX1_shout_49 rfl ?_
          exact ih1 (j1 + 1) x4_1 fyk_1 fyt_1 (by omega) (by omega) (by rw [L1_X1_shout, ← hst1]; exact (show L1_X1_shouts yd ca ot wo j1 x4_1 fyk_1 fyt_1 = (x4_1, fyk_1, fyt_1) from by rw [L1_X1_shouts, if_pos c5]).symm) _ _ _ hW (lv_sub hl [0, 1, 2, 3, 4, 5] rfl)
        · refine lv_iload (pc := 22) hx hb dX1_shout_22 (lv_at hl 0 rfl) ?_
          refine lv_iload_n (pc := 24) hx hb dX1_shout_24 rfl (lv_at hl 5 rfl) ?_
          refine lv_icmp_eq (tgt := 46) (pc := 25) hx hb dX1_shout_25 rfl (fun c8 => ?_) (fun c8 => ?_)
          · refine lv_iinc (v := nI (j1 + 1)) (lv' := [(5, .int (nI (j1 + 1))), (4, .int x4_1), (0, .ref y0), (1, .int (nI ca)), (2, .int ot), (3, .int wo)]) (pc := 46) hx hb dX1_shout_46 hl (k := 0) rfl (nI_add j1 1) (by decide) rfl (fun ls hl => ?_)
            refine lv_goto (tgt := 6) (pc := 49) hx hb dX1_shout_49 rfl ?_
            exact ih1 (j1 + 1) x4_1 fyk_1 fyt_1 (by omega) (by omega) (by rw [L1_X1_shout, ← hst1]; exact (show L1_X1_shouts yd ca ot wo j1 x4_1 fyk_1 fyt_1 = (x4_1, fyk_1, fyt_1) from by rw [L1_X1_shouts, if_neg c5, if_pos c8]).symm) _ _ _ hW (lv_sub hl [0, 1, 2, 3, 4, 5] rfl)
          · refine lv_aload_n (pc := 28) hx hb dX1_shout_28 rfl (lv_at hl 2 rfl) ?_
            refine lv_iload (pc := 29) hx hb dX1_shout_29 (lv_at hl 0 rfl) ?_
            refine lv_aload_n (pc := 31) hx hb dX1_shout_31 rfl (lv_at hl 2 rfl) ?_
            refine r_get X hW 0 ciX1 0 rfl (by decide) m_58 rfl rfl dX1_shout_32 ?_
            refine lv_iload_n (pc := 35) hx hb dX1_shout_35 rfl (lv_at hl 3 rfl) ?_
            refine r_iald X hW 1 rfl (vp_in_nI (by omega) (by decide)) dX1_shout_36 ?_
            refine lv_topi (fun v11 ev11 => ?_)
            obtain rfl : v11 = fyk_1 ca := ev11.trans (by rw [nI_clamp (by omega)])
            refine c_Vi (pc := 37) (As := [.int (nI j1), .int (fyk_1 ca)]) (rest := []) (wr := []) X hW 0 ciX1 rfl (K_X1_tell l g y0 yk yt yd yu yb fyk_1 fyt_1 j1 (fyk_1 ca) (by omega)) vX1_77 [0, 1, 2] [] rfl rfl rfl rfl rfl rfl hl.1 rfl (Nat.le_of_ble_eq_true rfl) ⟨Nat.le_of_ble_eq_true rfl, Nat.le_of_ble_eq_true rfl⟩ ⟨Nat.le_of_ble_eq_true rfl, Nat.le_of_ble_eq_true rfl⟩ dX1_shout_37 (fun r12 u9 H locs hq hW => ?_)
            obtain ⟨rfl, rfl⟩ := hq
            have hW : WD g A s _ _ [(y0, .inr (1, [.ref yk, .ref yt, .int yd, .long yu, .long yb])), (yk, .inl (g.2.1 1, 7, .inl ((F_X1_tell yd fyk_1 fyt_1 j1 (fyk_1 ca)).2.1))), (yt, .inl (g.2.1 1, 7, .inl ((F_X1_tell yd fyk_1 fyt_1 j1 (fyk_1 ca)).2.2)))] := hW
            refine lv_if_eq (tgt := 46) (pc := 40) hx hb dX1_shout_40 rfl (fun c13 => ?_) (fun c13 => ?_)
            · refine lv_iinc (v := nI (j1 + 1)) (lv' := [(5, .int (nI (j1 + 1))), (4, .int x4_1), (0, .ref y0), (1, .int (nI ca)), (2, .int ot), (3, .int wo)]) (pc := 46) hx hb dX1_shout_46 hl (k := 0) rfl (nI_add j1 1) (by decide) rfl (fun ls hl => ?_)
              refine lv_goto (tgt := 6) (pc := 49) hx hb dX1_shout_49 rfl ?_
              exact ih1 (j1 + 1) x4_1 ((F_X1_tell yd fyk_1 fyt_1 j1 (fyk_1 ca)).2.1) ((F_X1_tell yd fyk_1 fyt_1 j1 (fyk_1 ca)).2.2) (by omega) (by omega) (by rw [L1_X1_shout, ← hst1]; exact (show L1_X1_shouts yd ca ot wo j1 x4_1 fyk_1 fyt_1 = (x4_1, ((F_X1_tell yd fyk_1 fyt_1 j1 (fyk_1 ca)).2.1), ((F_X1_tell yd fyk_1 fyt_1 j1 (fyk_1 ca)).2.2)) from by rw [L1_X1_shouts, if_neg c5, if_neg c8, if_pos c13]).symm) _ _ _ hW (lv_sub hl [0, 1, 2, 3, 4, 5] rfl)
            · refine lv_iconst (v := 1) (pc := 43) hx hb dX1_shout_43 (by decide) ?_
              refine lv_istore (lv' := [(4, .int 1), (5, .int (nI j1)), (0, .ref y0), (1, .int (nI ca)), (2, .int ot), (3, .int wo)]) (pc := 44) hx hb dX1_shout_44 hl (by decide) rfl (fun ls hl => ?_)
              refine lv_iinc (v := nI (j1 + 1)) (lv' := [(5, .int (nI (j1 + 1))), (4, .int 1), (0, .ref y0), (1, .int (nI ca)), (2, .int ot), (3, .int wo)]) (pc := 46) hx hb dX1_shout_46 hl (k := 1) rfl (nI_add j1 1) (by decide) rfl (fun ls hl => ?_)
              refine lv_goto (tgt := 6) (pc := 49) hx hb dX1_shout_49 rfl ?_
              exact ih1 (j1 + 1) (1 : Int32) ((F_X1_tell yd fyk_1 fyt_1 j1 (fyk_1 ca)).2.1) ((F_X1_tell yd fyk_1 fyt_1 j1 (fyk_1 ca)).2.2) (by omega) (by omega) (by rw [L1_X1_shout, ← hst1]; exact (show L1_X1_shouts yd ca ot wo j1 x4_1 fyk_1 fyt_1 = ((1 : Int32), ((F_X1_tell yd fyk_1 fyt_1 j1 (fyk_1 ca)).2.1), ((F_X1_tell yd fyk_1 fyt_1 j1 (fyk_1 ca)).2.2)) from by rw [L1_X1_shouts, if_neg c5, if_neg c8, if_neg c13]).symm) _ _ _ hW (lv_sub hl [0, 1, 2, 3, 4, 5] rfl)
  exact loop1 (7 + 1) 0 (0 : Int32) kN tO (by omega) (by omega) rfl _ _ _ hW (lv_sub hl [0, 1, 2, 3, 4, 5] rfl)

def F_X1_carryCall (yd : Int32) (kN : Nat → Int32) (tO : Nat → Int32) (t : Nat) (wo : Int32) (pK : Nat → Int32) (pA : Nat → Int32) (pB : Nat → Int32) (pR : Nat → Int32) (k8 : Nat → Int32) : Int32 × (Nat → Int32) × (Nat → Int32) := if nI (tN (pA t)) = wo then (((0 : Int32), kN, tO)) else (if pK t = 3 then (((F_X1_shout yd kN tO (tN (pA t)) (pR t) wo).1, ((F_X1_shout yd kN tO (tN (pA t)) (pR t) wo).2.1), ((F_X1_shout yd kN tO (tN (pA t)) (pR t) wo).2.2))) else (if nI (tN (pB t)) = wo then (((0 : Int32), kN, tO)) else (if pK t = 0 then (if (F_X1_tell yd kN tO (tN (pB t)) (kN (tN (pA t)))).1 = 0 then (if (F_X1_tell yd ((F_X1_tell yd kN tO (tN (pB t)) (kN (tN (pA t)))).2.1) ((F_X1_tell yd kN tO (tN (pB t)) (kN (tN (pA t)))).2.2) (tN (pA t)) (kN (tN (pB t)))).1 = 0 then (((0 : Int32), ((F_X1_tell yd ((F_X1_tell yd kN tO (tN (pB t)) (kN (tN (pA t)))).2.1) ((F_X1_tell yd kN tO (tN (pB t)) (kN (tN (pA t)))).2.2) (tN (pA t)) (kN (tN (pB t)))).2.1), ((F_X1_tell yd ((F_X1_tell yd kN tO (tN (pB t)) (kN (tN (pA t)))).2.1) ((F_X1_tell yd kN tO (tN (pB t)) (kN (tN (pA t)))).2.2) (tN (pA t)) (kN (tN (pB t)))).2.2))) else (((1 : Int32), ((F_X1_tell yd ((F_X1_tell yd kN tO (tN (pB t)) (kN (tN (pA t)))).2.1) ((F_X1_tell yd kN tO (tN (pB t)) (kN (tN (pA t)))).2.2) (tN (pA t)) (kN (tN (pB t)))).2.1), ((F_X1_tell yd ((F_X1_tell yd kN tO (tN (pB t)) (kN (tN (pA t)))).2.1) ((F_X1_tell yd kN tO (tN (pB t)) (kN (tN (pA t)))).2.2) (tN (pA t)) (kN (tN (pB t)))).2.2)))) else (((1 : Int32), ((F_X1_tell yd ((F_X1_tell yd kN tO (tN (pB t)) (kN (tN (pA t)))).2.1) ((F_X1_tell yd kN tO (tN (pB t)) (kN (tN (pA t)))).2.2) (tN (pA t)) (kN (tN (pB t)))).2.1), ((F_X1_tell yd ((F_X1_tell yd kN tO (tN (pB t)) (kN (tN (pA t)))).2.1) ((F_X1_tell yd kN tO (tN (pB t)) (kN (tN (pA t)))).2.2) (tN (pA t)) (kN (tN (pB t)))).2.2)))) else (if pK t = 1 then (((F_X1_tell yd kN tO (tN (pB t)) (kN (tN (pA t)))).1, ((F_X1_tell yd kN tO (tN (pB t)) (kN (tN (pA t)))).2.1), ((F_X1_tell yd kN tO (tN (pB t)) (kN (tN (pA t)))).2.2))) else (if pK t = 2 then (((F_X1_tell yd kN tO (tN (pA t)) (kN (tN (pB t)))).1, ((F_X1_tell yd kN tO (tN (pA t)) (kN (tN (pB t)))).2.1), ((F_X1_tell yd kN tO (tN (pA t)) (kN (tN (pB t)))).2.2))) else (if pK t = 3 then (((F_X1_tell yd kN tO (tN (pB t)) (kN (tN (pA t)))).1, ((F_X1_tell yd kN tO (tN (pB t)) (kN (tN (pA t)))).2.1), ((F_X1_tell yd kN tO (tN (pB t)) (kN (tN (pA t)))).2.2))) else (if pK t = 4 then (((F_X1_tell yd kN tO (tN (pB t)) ((kN (tN (pA t))) &&& ((k8 (tN (pB t))) ^^^ (-1 : Int32)))).1, ((F_X1_tell yd kN tO (tN (pB t)) ((kN (tN (pA t))) &&& ((k8 (tN (pB t))) ^^^ (-1 : Int32)))).2.1), ((F_X1_tell yd kN tO (tN (pB t)) ((kN (tN (pA t))) &&& ((k8 (tN (pB t))) ^^^ (-1 : Int32)))).2.2))) else (((F_X1_tell yd kN tO (tN (pB t)) (kN (tN (pA t)))).1, ((F_X1_tell yd kN tO (tN (pB t)) (kN (tN (pA t)))).2.1), ((F_X1_tell yd kN tO (tN (pB t)) (kN (tN (pA t)))).2.2))))))))))
set_option maxHeartbeats 4000000 in
set_option maxRecDepth 100000 in
theorem K_X1_carryCall (l : Launch) (g : GG) (y0 : Nat) (yk : Nat) (yt : Nat) (yd : Int32) (yu : Int64) (yb : Int64) (kN : Nat → Int32) (tO : Nat → Int32) (q : Nat) (q0 : Nat) (q1 : Nat) (q2 : Nat) (q3 : Nat) (q4 : Nat) (q5 : Nat) (q6 : Nat) (pc : Nat) (v : Nat) (v3 : Nat) (v4 : Nat) (v5 : Nat) (v6 : Nat) (v7 : Nat) (v8 : Nat) (v9 : Nat) (v10 : Nat) (v11 : Nat) (v12 : Nat) (v13 : Nat) (v15 : Nat) (pe : Int32) (lc : Int32) (de : Int32) (gl : Int32) (t : Nat) (wo : Int32) (pK : Nat → Int32) (pA : Nat → Int32) (pB : Nat → Int32) (pR : Nat → Int32) (k8 : Nat → Int32) (hp40 : pc ≤ 40) (ht : t < 40) (hCt : pA t = nI (tN (pA t))) (hCt2 : tN (pA t) < 7) (hB : ¬ pK t = 3 → pB t = nI (tN (pB t)) ∧ tN (pB t) < 7) : MetI l g yX1_carryCall cX1_carryCall 10 (some .boolean) 3 0 0 [.ref y0, .ref q, .int (nI t), .int wo] [(y0, .inr (1, [.ref yk, .ref yt, .int yd, .long yu, .long yb])), (yk, .inl (g.2.1 1, 7, .inl kN)), (yt, .inl (g.2.1 1, 7, .inl tO)), (q, .inr (4, [.ref v, .int (nI pc), .ref q0, .ref q1, .ref q2, .ref q3, .ref q4, .ref q5, .ref q6])), (q1, .inl (g.2.1 1, 40, .inl pK)), (q2, .inl (g.2.1 1, 40, .inl pA)), (q3, .inl (g.2.1 1, 40, .inl pB)), (q6, .inl (g.2.1 1, 40, .inl pR)), (v, .inr (10, [.int pe, .int lc, .int de, .ref v3, .ref v4, .ref v5, .ref v6, .ref v7, .ref v8, .ref v9, .ref v10, .ref v11, .ref v12, .ref v13, .int gl, .ref v15])), (v8, .inl (g.2.1 1, 7, .inl k8))] (fun r u => r = (F_X1_carryCall yd kN tO t wo pK pA pB pR k8).1 ∧ u = [(y0, .inr (1, [.ref yk, .ref yt, .int yd, .long yu, .long yb])), (yk, .inl (g.2.1 1, 7, .inl ((F_X1_carryCall yd kN tO t wo pK pA pB pR k8).2.1))), (yt, .inl (g.2.1 1, 7, .inl ((F_X1_carryCall yd kN tO t wo pK pA pB pR k8).2.2))), (q, .inr (4, [.ref v, .int (nI pc), .ref q0, .ref q1, .ref q2, .ref q3, .ref q4, .ref q5, .ref q6])), (q1, .inl (g.2.1 1, 40, .inl pK)), (q2, .inl (g.2.1 1, 40, .inl pA)), (q3, .inl (g.2.1 1, 40, .inl pB)), (q6, .inl (g.2.1 1, 40, .inl pR)), (v, .inr (10, [.int pe, .int lc, .int de, .ref v3, .ref v4, .ref v5, .ref v6, .ref v7, .ref v8, .ref v9, .ref v10, .ref v11, .ref v12, .ref v13, .int gl, .ref v15])), (v8, .inl (g.2.1 1, 7, .inl k8))]) := by
  refine MetI.of (own := RX1) rfl (by decide) (Nat.le_of_ble_eq_true rfl) ?_
  intro p e s m below meth c A ls args Q hQ X hr hin hW hl
  have hx := X.1
  have hb := X.2.1
  have hl : lv_has ls 10 [(0, .ref y0), (1, .ref q), (2, .int (nI t)), (3, .int wo)] := hl
  refine lv_aload_n (pc := 0) hx hb dX1_carryCall_0 rfl (lv_at hl 1 rfl) ?_
  refine r_getN X hW 3 ciX4 4 rfl (by decide) m_577 rfl rfl dX1_carryCall_1 ?_
  refine lv_iload_n (pc := 4) hx hb dX1_carryCall_4 rfl (lv_at hl 2 rfl) ?_
  refine r_iald X hW 5 rfl (vp_in_nI (by omega) (by decide)) dX1_carryCall_5 ?_
  refine lv_topi (fun v1 ev1 => ?_)
  obtain rfl : v1 = pA t := ev1.trans (by rw [nI_clamp (by omega)])
  rw [hCt]
  refine lv_istore (lv' := [(4, .int (nI (tN (pA t)))), (0, .ref y0), (1, .ref q), (2, .int (nI t)), (3, .int wo)]) (pc := 6) hx hb dX1_carryCall_6 hl (by decide) rfl (fun ls hl => ?_)
  refine lv_iload (pc := 8) hx hb dX1_carryCall_8 (lv_at hl 0 rfl) ?_
  refine lv_iload_n (pc := 10) hx hb dX1_carryCall_10 rfl (lv_at hl 4 rfl) ?_
  refine lv_icmp_ne (tgt := 16) (pc := 11) hx hb dX1_carryCall_11 rfl (fun c2 => ?_) (fun c2 => ?_)
  · refine lv_aload_n (pc := 16) hx hb dX1_carryCall_16 rfl (lv_at hl 2 rfl) ?_
    refine r_getN X hW 3 ciX4 3 rfl (by decide) m_575 rfl rfl dX1_carryCall_17 ?_
    refine lv_iload_n (pc := 20) hx hb dX1_carryCall_20 rfl (lv_at hl 3 rfl) ?_
    refine r_iald X hW 4 rfl (vp_in_nI (by omega) (by decide)) dX1_carryCall_21 ?_
    refine lv_topi (fun v4 ev4 => ?_)
    obtain rfl : v4 = pK t := ev4.trans (by rw [nI_clamp (by omega)])
    refine lv_iconst (v := 3) (pc := 22) hx hb dX1_carryCall_22 (by decide) ?_
    refine lv_icmp_ne (tgt := 40) (pc := 23) hx hb dX1_carryCall_23 rfl (fun c5 => ?_) (fun c5 => ?_)
    · have q23 := c5
      refine lv_aload_n (pc := 40) hx hb dX1_carryCall_40 rfl (lv_at hl 2 rfl) ?_
      refine r_getN X hW 3 ciX4 5 rfl (by decide) m_579 rfl rfl dX1_carryCall_41 ?_
      refine lv_iload_n (pc := 44) hx hb dX1_carryCall_44 rfl (lv_at hl 3 rfl) ?_
      refine r_iald X hW 6 rfl (vp_in_nI (by omega) (by decide)) dX1_carryCall_45 ?_
      refine lv_topi (fun v7 ev7 => ?_)
      obtain rfl : v7 = pB t := ev7.trans (by rw [nI_clamp (by omega)])
      have hBt := hB q23
      have hBt2 := hBt.2
      rw [hBt.1]
      refine lv_istore (lv' := [(5, .int (nI (tN (pB t)))), (4, .int (nI (tN (pA t)))), (0, .ref y0), (1, .ref q), (2, .int (nI t)), (3, .int wo)]) (pc := 46) hx hb dX1_carryCall_46 hl (by decide) rfl (fun ls hl => ?_)
      refine lv_iload (pc := 48) hx hb dX1_carryCall_48 (lv_at hl 0 rfl) ?_
      refine lv_iload_n (pc := 50) hx hb dX1_carryCall_50 rfl (lv_at hl 5 rfl) ?_
      refine lv_icmp_ne (tgt := 56) (pc := 51) hx hb dX1_carryCall_51 rfl (fun c8 => ?_) (fun c8 => ?_)
      · refine lv_aload_n (pc := 56) hx hb dX1_carryCall_56 rfl (lv_at hl 2 rfl) ?_
        refine r_get X hW 0 ciX1 0 rfl (by decide) m_58 rfl rfl dX1_carryCall_57 ?_
        refine lv_iload (pc := 60) hx hb dX1_carryCall_60 (lv_at hl 1 rfl) ?_
        refine r_iald X hW 1 rfl (vp_in_nI (by omega) (by decide)) dX1_carryCall_62 ?_
        refine lv_topi (fun v10 ev10 => ?_)
        obtain rfl : v10 = kN (tN (pA t)) := ev10.trans (by rw [nI_clamp (by omega)])
        refine lv_istore (lv' := [(6, .int (kN (tN (pA t)))), (5, .int (nI (tN (pB t)))), (4, .int (nI (tN (pA t)))), (0, .ref y0), (1, .ref q), (2, .int (nI t)), (3, .int wo)]) (pc := 63) hx hb dX1_carryCall_63 hl (by decide) rfl (fun ls hl => ?_)
        refine lv_aload_n (pc := 65) hx hb dX1_carryCall_65 rfl (lv_at hl 3 rfl) ?_
        refine r_get X hW 0 ciX1 0 rfl (by decide) m_58 rfl rfl dX1_carryCall_66 ?_
        refine lv_iload (pc := 69) hx hb dX1_carryCall_69 (lv_at hl 1 rfl) ?_
        refine r_iald X hW 1 rfl (vp_in_nI (by omega) (by decide)) dX1_carryCall_71 ?_
        refine lv_topi (fun v11 ev11 => ?_)
        obtain rfl : v11 = kN (tN (pB t)) := ev11.trans (by rw [nI_clamp (by omega)])
        refine lv_istore (lv' := [(7, .int (kN (tN (pB t)))), (6, .int (kN (tN (pA t)))), (5, .int (nI (tN (pB t)))), (4, .int (nI (tN (pA t)))), (0, .ref y0), (1, .ref q), (2, .int (nI t)), (3, .int wo)]) (pc := 72) hx hb dX1_carryCall_72 hl (by decide) rfl (fun ls hl => ?_)
        refine lv_aload_n (pc := 74) hx hb dX1_carryCall_74 rfl (lv_at hl 5 rfl) ?_
        refine r_getN X hW 3 ciX4 3 rfl (by decide) m_575 rfl rfl dX1_carryCall_75 ?_
        refine lv_iload_n (pc := 78) hx hb dX1_carryCall_78 rfl (lv_at hl 6 rfl) ?_
        refine r_iald X hW 4 rfl (vp_in_nI (by omega) (by decide)) dX1_carryCall_79 ?_
        refine lv_topi (fun v12 ev12 => ?_)
        obtain rfl : v12 = pK t := ev12.trans (by rw [nI_clamp (by omega)])
        by_cases c13 : pK t = 0
        · rw [c13]
          refine lv_tableIn (pc := 80) (off := 36) (tgt := 116) hx hb dX1_carryCall_80 (by decide) (by decide) rfl rfl ?_
          refine lv_aload_n (pc := 116) hx hb dX1_carryCall_116 rfl (lv_at hl 4 rfl) ?_
          refine lv_iload (pc := 117) hx hb dX1_carryCall_117 (lv_at hl 2 rfl) ?_
          refine lv_iload (pc := 119) hx hb dX1_carryCall_119 (lv_at hl 1 rfl) ?_
          refine c_Vi (pc := 121) (As := [.int (nI (tN (pB t))), .int (kN (tN (pA t)))]) (rest := []) (wr := [(q, .inr (4, [.ref v, .int (nI pc), .ref q0, .ref q1, .ref q2, .ref q3, .ref q4, .ref q5, .ref q6])), (q1, .inl (g.2.1 1, 40, .inl pK)), (q2, .inl (g.2.1 1, 40, .inl pA)), (q3, .inl (g.2.1 1, 40, .inl pB)), (q6, .inl (g.2.1 1, 40, .inl pR)), (v, .inr (10, [.int pe, .int lc, .int de, .ref v3, .ref v4, .ref v5, .ref v6, .ref v7, .ref v8, .ref v9, .ref v10, .ref v11, .ref v12, .ref v13, .int gl, .ref v15])), (v8, .inl (g.2.1 1, 7, .inl k8))]) X hW 0 ciX1 rfl (K_X1_tell l g y0 yk yt yd yu yb kN tO (tN (pB t)) (kN (tN (pA t))) (by omega)) vX1_77 [0, 1, 2] [3, 4, 5, 6, 7, 8, 9] rfl rfl rfl rfl rfl rfl hl.1 rfl (Nat.le_of_ble_eq_true rfl) ⟨Nat.le_of_ble_eq_true rfl, Nat.le_of_ble_eq_true rfl⟩ ⟨Nat.le_of_ble_eq_true rfl, Nat.le_of_ble_eq_true rfl⟩ dX1_carryCall_121 (fun r14 u9 H locs hq hW => ?_)
          obtain ⟨rfl, rfl⟩ := hq
          have hW : WD g A s _ _ [(q, .inr (4, [.ref v, .int (nI pc), .ref q0, .ref q1, .ref q2, .ref q3, .ref q4, .ref q5, .ref q6])), (q1, .inl (g.2.1 1, 40, .inl pK)), (q2, .inl (g.2.1 1, 40, .inl pA)), (q3, .inl (g.2.1 1, 40, .inl pB)), (q6, .inl (g.2.1 1, 40, .inl pR)), (v, .inr (10, [.int pe, .int lc, .int de, .ref v3, .ref v4, .ref v5, .ref v6, .ref v7, .ref v8, .ref v9, .ref v10, .ref v11, .ref v12, .ref v13, .int gl, .ref v15])), (v8, .inl (g.2.1 1, 7, .inl k8)), (y0, .inr (1, [.ref yk, .ref yt, .int yd, .long yu, .long yb])), (yk, .inl (g.2.1 1, 7, .inl ((F_X1_tell yd kN tO (tN (pB t)) (kN (tN (pA t)))).2.1))), (yt, .inl (g.2.1 1, 7, .inl ((F_X1_tell yd kN tO (tN (pB t)) (kN (tN (pA t)))).2.2)))] := hW
          refine lv_istore (lv' := [(8, .int ((F_X1_tell yd kN tO (tN (pB t)) (kN (tN (pA t)))).1)), (7, .int (kN (tN (pB t)))), (6, .int (kN (tN (pA t)))), (5, .int (nI (tN (pB t)))), (4, .int (nI (tN (pA t)))), (0, .ref y0), (1, .ref q), (2, .int (nI t)), (3, .int wo)]) (pc := 124) hx hb dX1_carryCall_124 hl (by decide) rfl (fun ls hl => ?_)
          refine lv_aload_n (pc := 126) hx hb dX1_carryCall_126 rfl (lv_at hl 5 rfl) ?_
          refine lv_iload (pc := 127) hx hb dX1_carryCall_127 (lv_at hl 4 rfl) ?_
          refine lv_iload (pc := 129) hx hb dX1_carryCall_129 (lv_at hl 1 rfl) ?_
          refine c_Vi (pc := 131) (As := [.int (nI (tN (pA t))), .int (kN (tN (pB t)))]) (rest := []) (wr := [(q, .inr (4, [.ref v, .int (nI pc), .ref q0, .ref q1, .ref q2, .ref q3, .ref q4, .ref q5, .ref q6])), (q1, .inl (g.2.1 1, 40, .inl pK)), (q2, .inl (g.2.1 1, 40, .inl pA)), (q3, .inl (g.2.1 1, 40, .inl pB)), (q6, .inl (g.2.1 1, 40, .inl pR)), (v, .inr (10, [.int pe, .int lc, .int de, .ref v3, .ref v4, .ref v5, .ref v6, .ref v7, .ref v8, .ref v9, .ref v10, .ref v11, .ref v12, .ref v13, .int gl, .ref v15])), (v8, .inl (g.2.1 1, 7, .inl k8))]) X hW 7 ciX1 rfl (K_X1_tell l g y0 yk yt yd yu yb ((F_X1_tell yd kN tO (tN (pB t)) (kN (tN (pA t)))).2.1) ((F_X1_tell yd kN tO (tN (pB t)) (kN (tN (pA t)))).2.2) (tN (pA t)) (kN (tN (pB t))) (by omega)) vX1_77 [7, 8, 9] [0, 1, 2, 3, 4, 5, 6] rfl rfl rfl rfl rfl rfl hl.1 rfl (Nat.le_of_ble_eq_true rfl) ⟨Nat.le_of_ble_eq_true rfl, Nat.le_of_ble_eq_true rfl⟩ ⟨Nat.le_of_ble_eq_true rfl, Nat.le_of_ble_eq_true rfl⟩ dX1_carryCall_131 (fun r15 u9 H locs hq hW => ?_)
          obtain ⟨rfl, rfl⟩ := hq
          have hW : WD g A s _ _ [(q, .inr (4, [.ref v, .int (nI pc), .ref q0, .ref q1, .ref q2, .ref q3, .ref q4, .ref q5, .ref q6])), (q1, .inl (g.2.1 1, 40, .inl pK)), (q2, .inl (g.2.1 1, 40, .inl pA)), (q3, .inl (g.2.1 1, 40, .inl pB)), (q6, .inl (g.2.1 1, 40, .inl pR)), (v, .inr (10, [.int pe, .int lc, .int de, .ref v3, .ref v4, .ref v5, .ref v6, .ref v7, .ref v8, .ref v9, .ref v10, .ref v11, .ref v12, .ref v13, .int gl, .ref v15])), (v8, .inl (g.2.1 1, 7, .inl k8)), (y0, .inr (1, [.ref yk, .ref yt, .int yd, .long yu, .long yb])), (yk, .inl (g.2.1 1, 7, .inl ((F_X1_tell yd ((F_X1_tell yd kN tO (tN (pB t)) (kN (tN (pA t)))).2.1) ((F_X1_tell yd kN tO (tN (pB t)) (kN (tN (pA t)))).2.2) (tN (pA t)) (kN (tN (pB t)))).2.1))), (yt, .inl (g.2.1 1, 7, .inl ((F_X1_tell yd ((F_X1_tell yd kN tO (tN (pB t)) (kN (tN (pA t)))).2.1) ((F_X1_tell yd kN tO (tN (pB t)) (kN (tN (pA t)))).2.2) (tN (pA t)) (kN (tN (pB t)))).2.2)))] := hW
          refine lv_istore (lv' := [(9, .int ((F_X1_tell yd ((F_X1_tell yd kN tO (tN (pB t)) (kN (tN (pA t)))).2.1) ((F_X1_tell yd kN tO (tN (pB t)) (kN (tN (pA t)))).2.2) (tN (pA t)) (kN (tN (pB t)))).1)), (8, .int ((F_X1_tell yd kN tO (tN (pB t)) (kN (tN (pA t)))).1)), (7, .int (kN (tN (pB t)))), (6, .int (kN (tN (pA t)))), (5, .int (nI (tN (pB t)))), (4, .int (nI (tN (pA t)))), (0, .ref y0), (1, .ref q), (2, .int (nI t)), (3, .int wo)]) (pc := 134) hx hb dX1_carryCall_134 hl (by decide) rfl (fun ls hl => ?_)
          refine lv_iload (pc := 136) hx hb dX1_carryCall_136 (lv_at hl 1 rfl) ?_
          refine lv_if_ne (tgt := 146) (pc := 138) hx hb dX1_carryCall_138 rfl (fun c16 => ?_) (fun c16 => ?_)
          · refine lv_iconst (v := 1) (pc := 146) hx hb dX1_carryCall_146 (by decide) ?_
            refine lv_goto (tgt := 151) (pc := 147) hx hb dX1_carryCall_147 rfl ?_
            have hF : F_X1_carryCall yd kN tO t wo pK pA pB pR k8 = ((1 : Int32), ((F_X1_tell yd ((F_X1_tell yd kN tO (tN (pB t)) (kN (tN (pA t)))).2.1) ((F_X1_tell yd kN tO (tN (pB t)) (kN (tN (pA t)))).2.2) (tN (pA t)) (kN (tN (pB t)))).2.1), ((F_X1_tell yd ((F_X1_tell yd kN tO (tN (pB t)) (kN (tN (pA t)))).2.1) ((F_X1_tell yd kN tO (tN (pB t)) (kN (tN (pA t)))).2.2) (tN (pA t)) (kN (tN (pB t)))).2.2)) := show F_X1_carryCall yd kN tO t wo pK pA pB pR k8 = ((1 : Int32), ((F_X1_tell yd ((F_X1_tell yd kN tO (tN (pB t)) (kN (tN (pA t)))).2.1) ((F_X1_tell yd kN tO (tN (pB t)) (kN (tN (pA t)))).2.2) (tN (pA t)) (kN (tN (pB t)))).2.1), ((F_X1_tell yd ((F_X1_tell yd kN tO (tN (pB t)) (kN (tN (pA t)))).2.1) ((F_X1_tell yd kN tO (tN (pB t)) (kN (tN (pA t)))).2.2) (tN (pA t)) (kN (tN (pB t)))).2.2)) from by rw [F_X1_carryCall, if_neg c2, if_neg c5, if_neg c8, if_pos c13, if_neg c16]
            exact e_z (u := [(y0, .inr (1, [.ref yk, .ref yt, .int yd, .long yu, .long yb])), (yk, .inl (g.2.1 1, 7, .inl ((F_X1_tell yd ((F_X1_tell yd kN tO (tN (pB t)) (kN (tN (pA t)))).2.1) ((F_X1_tell yd kN tO (tN (pB t)) (kN (tN (pA t)))).2.2) (tN (pA t)) (kN (tN (pB t)))).2.1))), (yt, .inl (g.2.1 1, 7, .inl ((F_X1_tell yd ((F_X1_tell yd kN tO (tN (pB t)) (kN (tN (pA t)))).2.1) ((F_X1_tell yd kN tO (tN (pB t)) (kN (tN (pA t)))).2.2) (tN (pA t)) (kN (tN (pB t)))).2.2))), (q, .inr (4, [.ref v, .int (nI pc), .ref q0, .ref q1, .ref q2, .ref q3, .ref q4, .ref q5, .ref q6])), (q1, .inl (g.2.1 1, 40, .inl pK)), (q2, .inl (g.2.1 1, 40, .inl pA)), (q3, .inl (g.2.1 1, 40, .inl pB)), (q6, .inl (g.2.1 1, 40, .inl pR)), (v, .inr (10, [.int pe, .int lc, .int de, .ref v3, .ref v4, .ref v5, .ref v6, .ref v7, .ref v8, .ref v9, .ref v10, .ref v11, .ref v12, .ref v13, .int gl, .ref v15])), (v8, .inl (g.2.1 1, 7, .inl k8))]) X hQ hr (hW) rfl [7, 8, 9, 0, 1, 2, 3, 4, 5, 6] rfl rfl (⟨(congrArg Prod.fst hF).symm, by rw [hF]⟩) ⟨Nat.le_of_ble_eq_true rfl, Nat.le_of_ble_eq_true rfl⟩ dX1_carryCall_151
          · refine lv_iload (pc := 141) hx hb dX1_carryCall_141 (lv_at hl 0 rfl) ?_
            refine lv_if_eq (tgt := 150) (pc := 143) hx hb dX1_carryCall_143 rfl (fun c19 => ?_) (fun c19 => ?_)
            · refine lv_iconst (v := 0) (pc := 150) hx hb dX1_carryCall_150 (by decide) ?_
              have hF : F_X1_carryCall yd kN tO t wo pK pA pB pR k8 = ((0 : Int32), ((F_X1_tell yd ((F_X1_tell yd kN tO (tN (pB t)) (kN (tN (pA t)))).2.1) ((F_X1_tell yd kN tO (tN (pB t)) (kN (tN (pA t)))).2.2) (tN (pA t)) (kN (tN (pB t)))).2.1), ((F_X1_tell yd ((F_X1_tell yd kN tO (tN (pB t)) (kN (tN (pA t)))).2.1) ((F_X1_tell yd kN tO (tN (pB t)) (kN (tN (pA t)))).2.2) (tN (pA t)) (kN (tN (pB t)))).2.2)) := show F_X1_carryCall yd kN tO t wo pK pA pB pR k8 = ((0 : Int32), ((F_X1_tell yd ((F_X1_tell yd kN tO (tN (pB t)) (kN (tN (pA t)))).2.1) ((F_X1_tell yd kN tO (tN (pB t)) (kN (tN (pA t)))).2.2) (tN (pA t)) (kN (tN (pB t)))).2.1), ((F_X1_tell yd ((F_X1_tell yd kN tO (tN (pB t)) (kN (tN (pA t)))).2.1) ((F_X1_tell yd kN tO (tN (pB t)) (kN (tN (pA t)))).2.2) (tN (pA t)) (kN (tN (pB t)))).2.2)) from by rw [F_X1_carryCall, if_neg c2, if_neg c5, if_neg c8, if_pos c13, if_pos c16, if_pos c19]
              exact e_z (u := [(y0, .inr (1, [.ref yk, .ref yt, .int yd, .long yu, .long yb])), (yk, .inl (g.2.1 1, 7, .inl ((F_X1_tell yd ((F_X1_tell yd kN tO (tN (pB t)) (kN (tN (pA t)))).2.1) ((F_X1_tell yd kN tO (tN (pB t)) (kN (tN (pA t)))).2.2) (tN (pA t)) (kN (tN (pB t)))).2.1))), (yt, .inl (g.2.1 1, 7, .inl ((F_X1_tell yd ((F_X1_tell yd kN tO (tN (pB t)) (kN (tN (pA t)))).2.1) ((F_X1_tell yd kN tO (tN (pB t)) (kN (tN (pA t)))).2.2) (tN (pA t)) (kN (tN (pB t)))).2.2))), (q, .inr (4, [.ref v, .int (nI pc), .ref q0, .ref q1, .ref q2, .ref q3, .ref q4, .ref q5, .ref q6])), (q1, .inl (g.2.1 1, 40, .inl pK)), (q2, .inl (g.2.1 1, 40, .inl pA)), (q3, .inl (g.2.1 1, 40, .inl pB)), (q6, .inl (g.2.1 1, 40, .inl pR)), (v, .inr (10, [.int pe, .int lc, .int de, .ref v3, .ref v4, .ref v5, .ref v6, .ref v7, .ref v8, .ref v9, .ref v10, .ref v11, .ref v12, .ref v13, .int gl, .ref v15])), (v8, .inl (g.2.1 1, 7, .inl k8))]) X hQ hr (hW) rfl [7, 8, 9, 0, 1, 2, 3, 4, 5, 6] rfl rfl (⟨(congrArg Prod.fst hF).symm, by rw [hF]⟩) ⟨Nat.le_of_ble_eq_true rfl, Nat.le_of_ble_eq_true rfl⟩ dX1_carryCall_151
            · refine lv_iconst (v := 1) (pc := 146) hx hb dX1_carryCall_146 (by decide) ?_
              refine lv_goto (tgt := 151) (pc := 147) hx hb dX1_carryCall_147 rfl ?_
              have hF : F_X1_carryCall yd kN tO t wo pK pA pB pR k8 = ((1 : Int32), ((F_X1_tell yd ((F_X1_tell yd kN tO (tN (pB t)) (kN (tN (pA t)))).2.1) ((F_X1_tell yd kN tO (tN (pB t)) (kN (tN (pA t)))).2.2) (tN (pA t)) (kN (tN (pB t)))).2.1), ((F_X1_tell yd ((F_X1_tell yd kN tO (tN (pB t)) (kN (tN (pA t)))).2.1) ((F_X1_tell yd kN tO (tN (pB t)) (kN (tN (pA t)))).2.2) (tN (pA t)) (kN (tN (pB t)))).2.2)) := show F_X1_carryCall yd kN tO t wo pK pA pB pR k8 = ((1 : Int32), ((F_X1_tell yd ((F_X1_tell yd kN tO (tN (pB t)) (kN (tN (pA t)))).2.1) ((F_X1_tell yd kN tO (tN (pB t)) (kN (tN (pA t)))).2.2) (tN (pA t)) (kN (tN (pB t)))).2.1), ((F_X1_tell yd ((F_X1_tell yd kN tO (tN (pB t)) (kN (tN (pA t)))).2.1) ((F_X1_tell yd kN tO (tN (pB t)) (kN (tN (pA t)))).2.2) (tN (pA t)) (kN (tN (pB t)))).2.2)) from by rw [F_X1_carryCall, if_neg c2, if_neg c5, if_neg c8, if_pos c13, if_pos c16, if_neg c19]
              exact e_z (u := [(y0, .inr (1, [.ref yk, .ref yt, .int yd, .long yu, .long yb])), (yk, .inl (g.2.1 1, 7, .inl ((F_X1_tell yd ((F_X1_tell yd kN tO (tN (pB t)) (kN (tN (pA t)))).2.1) ((F_X1_tell yd kN tO (tN (pB t)) (kN (tN (pA t)))).2.2) (tN (pA t)) (kN (tN (pB t)))).2.1))), (yt, .inl (g.2.1 1, 7, .inl ((F_X1_tell yd ((F_X1_tell yd kN tO (tN (pB t)) (kN (tN (pA t)))).2.1) ((F_X1_tell yd kN tO (tN (pB t)) (kN (tN (pA t)))).2.2) (tN (pA t)) (kN (tN (pB t)))).2.2))), (q, .inr (4, [.ref v, .int (nI pc), .ref q0, .ref q1, .ref q2, .ref q3, .ref q4, .ref q5, .ref q6])), (q1, .inl (g.2.1 1, 40, .inl pK)), (q2, .inl (g.2.1 1, 40, .inl pA)), (q3, .inl (g.2.1 1, 40, .inl pB)), (q6, .inl (g.2.1 1, 40, .inl pR)), (v, .inr (10, [.int pe, .int lc, .int de, .ref v3, .ref v4, .ref v5, .ref v6, .ref v7, .ref v8, .ref v9, .ref v10, .ref v11, .ref v12, .ref v13, .int gl, .ref v15])), (v8, .inl (g.2.1 1, 7, .inl k8))]) X hQ hr (hW) rfl [7, 8, 9, 0, 1, 2, 3, 4, 5, 6] rfl rfl (⟨(congrArg Prod.fst hF).symm, by rw [hF]⟩) ⟨Nat.le_of_ble_eq_true rfl, Nat.le_of_ble_eq_true rfl⟩ dX1_carryCall_151
        · by_cases c22 : pK t = 1
          · rw [c22]
            refine lv_tableIn (pc := 80) (off := 103) (tgt := 183) hx hb dX1_carryCall_80 (by decide) (by decide) rfl rfl ?_
            refine lv_aload_n (pc := 183) hx hb dX1_carryCall_183 rfl (lv_at hl 4 rfl) ?_
            refine lv_iload (pc := 184) hx hb dX1_carryCall_184 (lv_at hl 2 rfl) ?_
            refine lv_iload (pc := 186) hx hb dX1_carryCall_186 (lv_at hl 1 rfl) ?_
            refine c_Vi (pc := 188) (As := [.int (nI (tN (pB t))), .int (kN (tN (pA t)))]) (rest := []) (wr := [(q, .inr (4, [.ref v, .int (nI pc), .ref q0, .ref q1, .ref q2, .ref q3, .ref q4, .ref q5, .ref q6])), (q1, .inl (g.2.1 1, 40, .inl pK)), (q2, .inl (g.2.1 1, 40, .inl pA)), (q3, .inl (g.2.1 1, 40, .inl pB)), (q6, .inl (g.2.1 1, 40, .inl pR)), (v, .inr (10, [.int pe, .int lc, .int de, .ref v3, .ref v4, .ref v5, .ref v6, .ref v7, .ref v8, .ref v9, .ref v10, .ref v11, .ref v12, .ref v13, .int gl, .ref v15])), (v8, .inl (g.2.1 1, 7, .inl k8))]) X hW 0 ciX1 rfl (K_X1_tell l g y0 yk yt yd yu yb kN tO (tN (pB t)) (kN (tN (pA t))) (by omega)) vX1_77 [0, 1, 2] [3, 4, 5, 6, 7, 8, 9] rfl rfl rfl rfl rfl rfl hl.1 rfl (Nat.le_of_ble_eq_true rfl) ⟨Nat.le_of_ble_eq_true rfl, Nat.le_of_ble_eq_true rfl⟩ ⟨Nat.le_of_ble_eq_true rfl, Nat.le_of_ble_eq_true rfl⟩ dX1_carryCall_188 (fun r23 u9 H locs hq hW => ?_)
            obtain ⟨rfl, rfl⟩ := hq
            have hW : WD g A s _ _ [(q, .inr (4, [.ref v, .int (nI pc), .ref q0, .ref q1, .ref q2, .ref q3, .ref q4, .ref q5, .ref q6])), (q1, .inl (g.2.1 1, 40, .inl pK)), (q2, .inl (g.2.1 1, 40, .inl pA)), (q3, .inl (g.2.1 1, 40, .inl pB)), (q6, .inl (g.2.1 1, 40, .inl pR)), (v, .inr (10, [.int pe, .int lc, .int de, .ref v3, .ref v4, .ref v5, .ref v6, .ref v7, .ref v8, .ref v9, .ref v10, .ref v11, .ref v12, .ref v13, .int gl, .ref v15])), (v8, .inl (g.2.1 1, 7, .inl k8)), (y0, .inr (1, [.ref yk, .ref yt, .int yd, .long yu, .long yb])), (yk, .inl (g.2.1 1, 7, .inl ((F_X1_tell yd kN tO (tN (pB t)) (kN (tN (pA t)))).2.1))), (yt, .inl (g.2.1 1, 7, .inl ((F_X1_tell yd kN tO (tN (pB t)) (kN (tN (pA t)))).2.2)))] := hW
            have hF : F_X1_carryCall yd kN tO t wo pK pA pB pR k8 = ((F_X1_tell yd kN tO (tN (pB t)) (kN (tN (pA t)))).1, ((F_X1_tell yd kN tO (tN (pB t)) (kN (tN (pA t)))).2.1), ((F_X1_tell yd kN tO (tN (pB t)) (kN (tN (pA t)))).2.2)) := show F_X1_carryCall yd kN tO t wo pK pA pB pR k8 = ((F_X1_tell yd kN tO (tN (pB t)) (kN (tN (pA t)))).1, ((F_X1_tell yd kN tO (tN (pB t)) (kN (tN (pA t)))).2.1), ((F_X1_tell yd kN tO (tN (pB t)) (kN (tN (pA t)))).2.2)) from by rw [F_X1_carryCall, if_neg c2, if_neg c5, if_neg c8, if_neg c13, if_pos c22]
            exact e_z (u := [(y0, .inr (1, [.ref yk, .ref yt, .int yd, .long yu, .long yb])), (yk, .inl (g.2.1 1, 7, .inl ((F_X1_tell yd kN tO (tN (pB t)) (kN (tN (pA t)))).2.1))), (yt, .inl (g.2.1 1, 7, .inl ((F_X1_tell yd kN tO (tN (pB t)) (kN (tN (pA t)))).2.2))), (q, .inr (4, [.ref v, .int (nI pc), .ref q0, .ref q1, .ref q2, .ref q3, .ref q4, .ref q5, .ref q6])), (q1, .inl (g.2.1 1, 40, .inl pK)), (q2, .inl (g.2.1 1, 40, .inl pA)), (q3, .inl (g.2.1 1, 40, .inl pB)), (q6, .inl (g.2.1 1, 40, .inl pR)), (v, .inr (10, [.int pe, .int lc, .int de, .ref v3, .ref v4, .ref v5, .ref v6, .ref v7, .ref v8, .ref v9, .ref v10, .ref v11, .ref v12, .ref v13, .int gl, .ref v15])), (v8, .inl (g.2.1 1, 7, .inl k8))]) X hQ hr (hW) (F_X1_tell_z ..) [7, 8, 9, 0, 1, 2, 3, 4, 5, 6] rfl rfl (⟨(congrArg Prod.fst hF).symm, by rw [hF]⟩) ⟨Nat.le_of_ble_eq_true rfl, Nat.le_of_ble_eq_true rfl⟩ dX1_carryCall_191
          · by_cases c24 : pK t = 2
            · rw [c24]
              refine lv_tableIn (pc := 80) (off := 72) (tgt := 152) hx hb dX1_carryCall_80 (by decide) (by decide) rfl rfl ?_
              refine lv_aload_n (pc := 152) hx hb dX1_carryCall_152 rfl (lv_at hl 4 rfl) ?_
              refine lv_iload (pc := 153) hx hb dX1_carryCall_153 (lv_at hl 3 rfl) ?_
              refine lv_iload (pc := 155) hx hb dX1_carryCall_155 (lv_at hl 0 rfl) ?_
              refine c_Vi (pc := 157) (As := [.int (nI (tN (pA t))), .int (kN (tN (pB t)))]) (rest := []) (wr := [(q, .inr (4, [.ref v, .int (nI pc), .ref q0, .ref q1, .ref q2, .ref q3, .ref q4, .ref q5, .ref q6])), (q1, .inl (g.2.1 1, 40, .inl pK)), (q2, .inl (g.2.1 1, 40, .inl pA)), (q3, .inl (g.2.1 1, 40, .inl pB)), (q6, .inl (g.2.1 1, 40, .inl pR)), (v, .inr (10, [.int pe, .int lc, .int de, .ref v3, .ref v4, .ref v5, .ref v6, .ref v7, .ref v8, .ref v9, .ref v10, .ref v11, .ref v12, .ref v13, .int gl, .ref v15])), (v8, .inl (g.2.1 1, 7, .inl k8))]) X hW 0 ciX1 rfl (K_X1_tell l g y0 yk yt yd yu yb kN tO (tN (pA t)) (kN (tN (pB t))) (by omega)) vX1_77 [0, 1, 2] [3, 4, 5, 6, 7, 8, 9] rfl rfl rfl rfl rfl rfl hl.1 rfl (Nat.le_of_ble_eq_true rfl) ⟨Nat.le_of_ble_eq_true rfl, Nat.le_of_ble_eq_true rfl⟩ ⟨Nat.le_of_ble_eq_true rfl, Nat.le_of_ble_eq_true rfl⟩ dX1_carryCall_157 (fun r25 u9 H locs hq hW => ?_)
              obtain ⟨rfl, rfl⟩ := hq
              have hW : WD g A s _ _ [(q, .inr (4, [.ref v, .int (nI pc), .ref q0, .ref q1, .ref q2, .ref q3, .ref q4, .ref q5, .ref q6])), (q1, .inl (g.2.1 1, 40, .inl pK)), (q2, .inl (g.2.1 1, 40, .inl pA)), (q3, .inl (g.2.1 1, 40, .inl pB)), (q6, .inl (g.2.1 1, 40, .inl pR)), (v, .inr (10, [.int pe, .int lc, .int de, .ref v3, .ref v4, .ref v5, .ref v6, .ref v7, .ref v8, .ref v9, .ref v10, .ref v11, .ref v12, .ref v13, .int gl, .ref v15])), (v8, .inl (g.2.1 1, 7, .inl k8)), (y0, .inr (1, [.ref yk, .ref yt, .int yd, .long yu, .long yb])), (yk, .inl (g.2.1 1, 7, .inl ((F_X1_tell yd kN tO (tN (pA t)) (kN (tN (pB t)))).2.1))), (yt, .inl (g.2.1 1, 7, .inl ((F_X1_tell yd kN tO (tN (pA t)) (kN (tN (pB t)))).2.2)))] := hW
              have hF : F_X1_carryCall yd kN tO t wo pK pA pB pR k8 = ((F_X1_tell yd kN tO (tN (pA t)) (kN (tN (pB t)))).1, ((F_X1_tell yd kN tO (tN (pA t)) (kN (tN (pB t)))).2.1), ((F_X1_tell yd kN tO (tN (pA t)) (kN (tN (pB t)))).2.2)) := show F_X1_carryCall yd kN tO t wo pK pA pB pR k8 = ((F_X1_tell yd kN tO (tN (pA t)) (kN (tN (pB t)))).1, ((F_X1_tell yd kN tO (tN (pA t)) (kN (tN (pB t)))).2.1), ((F_X1_tell yd kN tO (tN (pA t)) (kN (tN (pB t)))).2.2)) from by rw [F_X1_carryCall, if_neg c2, if_neg c5, if_neg c8, if_neg c13, if_neg c22, if_pos c24]
              exact e_z (u := [(y0, .inr (1, [.ref yk, .ref yt, .int yd, .long yu, .long yb])), (yk, .inl (g.2.1 1, 7, .inl ((F_X1_tell yd kN tO (tN (pA t)) (kN (tN (pB t)))).2.1))), (yt, .inl (g.2.1 1, 7, .inl ((F_X1_tell yd kN tO (tN (pA t)) (kN (tN (pB t)))).2.2))), (q, .inr (4, [.ref v, .int (nI pc), .ref q0, .ref q1, .ref q2, .ref q3, .ref q4, .ref q5, .ref q6])), (q1, .inl (g.2.1 1, 40, .inl pK)), (q2, .inl (g.2.1 1, 40, .inl pA)), (q3, .inl (g.2.1 1, 40, .inl pB)), (q6, .inl (g.2.1 1, 40, .inl pR)), (v, .inr (10, [.int pe, .int lc, .int de, .ref v3, .ref v4, .ref v5, .ref v6, .ref v7, .ref v8, .ref v9, .ref v10, .ref v11, .ref v12, .ref v13, .int gl, .ref v15])), (v8, .inl (g.2.1 1, 7, .inl k8))]) X hQ hr (hW) (F_X1_tell_z ..) [7, 8, 9, 0, 1, 2, 3, 4, 5, 6] rfl rfl (⟨(congrArg Prod.fst hF).symm, by rw [hF]⟩) ⟨Nat.le_of_ble_eq_true rfl, Nat.le_of_ble_eq_true rfl⟩ dX1_carryCall_160
            · by_cases c26 : pK t = 3
              · rw [c26]
                refine lv_tableIn (pc := 80) (off := 103) (tgt := 183) hx hb dX1_carryCall_80 (by decide) (by decide) rfl rfl ?_
                refine lv_aload_n (pc := 183) hx hb dX1_carryCall_183 rfl (lv_at hl 4 rfl) ?_
                refine lv_iload (pc := 184) hx hb dX1_carryCall_184 (lv_at hl 2 rfl) ?_
                refine lv_iload (pc := 186) hx hb dX1_carryCall_186 (lv_at hl 1 rfl) ?_
                refine c_Vi (pc := 188) (As := [.int (nI (tN (pB t))), .int (kN (tN (pA t)))]) (rest := []) (wr := [(q, .inr (4, [.ref v, .int (nI pc), .ref q0, .ref q1, .ref q2, .ref q3, .ref q4, .ref q5, .ref q6])), (q1, .inl (g.2.1 1, 40, .inl pK)), (q2, .inl (g.2.1 1, 40, .inl pA)), (q3, .inl (g.2.1 1, 40, .inl pB)), (q6, .inl (g.2.1 1, 40, .inl pR)), (v, .inr (10, [.int pe, .int lc, .int de, .ref v3, .ref v4, .ref v5, .ref v6, .ref v7, .ref v8, .ref v9, .ref v10, .ref v11, .ref v12, .ref v13, .int gl, .ref v15])), (v8, .inl (g.2.1 1, 7, .inl k8))]) X hW 0 ciX1 rfl (K_X1_tell l g y0 yk yt yd yu yb kN tO (tN (pB t)) (kN (tN (pA t))) (by omega)) vX1_77 [0, 1, 2] [3, 4, 5, 6, 7, 8, 9] rfl rfl rfl rfl rfl rfl hl.1 rfl (Nat.le_of_ble_eq_true rfl) ⟨Nat.le_of_ble_eq_true rfl, Nat.le_of_ble_eq_true rfl⟩ ⟨Nat.le_of_ble_eq_true rfl, Nat.le_of_ble_eq_true rfl⟩ dX1_carryCall_188 (fun r27 u9 H locs hq hW => ?_)
                obtain ⟨rfl, rfl⟩ := hq
                have hW : WD g A s _ _ [(q, .inr (4, [.ref v, .int (nI pc), .ref q0, .ref q1, .ref q2, .ref q3, .ref q4, .ref q5, .ref q6])), (q1, .inl (g.2.1 1, 40, .inl pK)), (q2, .inl (g.2.1 1, 40, .inl pA)), (q3, .inl (g.2.1 1, 40, .inl pB)), (q6, .inl (g.2.1 1, 40, .inl pR)), (v, .inr (10, [.int pe, .int lc, .int de, .ref v3, .ref v4, .ref v5, .ref v6, .ref v7, .ref v8, .ref v9, .ref v10, .ref v11, .ref v12, .ref v13, .int gl, .ref v15])), (v8, .inl (g.2.1 1, 7, .inl k8)), (y0, .inr (1, [.ref yk, .ref yt, .int yd, .long yu, .long yb])), (yk, .inl (g.2.1 1, 7, .inl ((F_X1_tell yd kN tO (tN (pB t)) (kN (tN (pA t)))).2.1))), (yt, .inl (g.2.1 1, 7, .inl ((F_X1_tell yd kN tO (tN (pB t)) (kN (tN (pA t)))).2.2)))] := hW
                have hF : F_X1_carryCall yd kN tO t wo pK pA pB pR k8 = ((F_X1_tell yd kN tO (tN (pB t)) (kN (tN (pA t)))).1, ((F_X1_tell yd kN tO (tN (pB t)) (kN (tN (pA t)))).2.1), ((F_X1_tell yd kN tO (tN (pB t)) (kN (tN (pA t)))).2.2)) := show F_X1_carryCall yd kN tO t wo pK pA pB pR k8 = ((F_X1_tell yd kN tO (tN (pB t)) (kN (tN (pA t)))).1, ((F_X1_tell yd kN tO (tN (pB t)) (kN (tN (pA t)))).2.1), ((F_X1_tell yd kN tO (tN (pB t)) (kN (tN (pA t)))).2.2)) from by rw [F_X1_carryCall, if_neg c2, if_neg c5, if_neg c8, if_neg c13, if_neg c22, if_neg c24, if_pos c26]
                exact e_z (u := [(y0, .inr (1, [.ref yk, .ref yt, .int yd, .long yu, .long yb])), (yk, .inl (g.2.1 1, 7, .inl ((F_X1_tell yd kN tO (tN (pB t)) (kN (tN (pA t)))).2.1))), (yt, .inl (g.2.1 1, 7, .inl ((F_X1_tell yd kN tO (tN (pB t)) (kN (tN (pA t)))).2.2))), (q, .inr (4, [.ref v, .int (nI pc), .ref q0, .ref q1, .ref q2, .ref q3, .ref q4, .ref q5, .ref q6])), (q1, .inl (g.2.1 1, 40, .inl pK)), (q2, .inl (g.2.1 1, 40, .inl pA)), (q3, .inl (g.2.1 1, 40, .inl pB)), (q6, .inl (g.2.1 1, 40, .inl pR)), (v, .inr (10, [.int pe, .int lc, .int de, .ref v3, .ref v4, .ref v5, .ref v6, .ref v7, .ref v8, .ref v9, .ref v10, .ref v11, .ref v12, .ref v13, .int gl, .ref v15])), (v8, .inl (g.2.1 1, 7, .inl k8))]) X hQ hr (hW) (F_X1_tell_z ..) [7, 8, 9, 0, 1, 2, 3, 4, 5, 6] rfl rfl (⟨(congrArg Prod.fst hF).symm, by rw [hF]⟩) ⟨Nat.le_of_ble_eq_true rfl, Nat.le_of_ble_eq_true rfl⟩ dX1_carryCall_191
              · by_cases c28 : pK t = 4
                · rw [c28]
                  refine lv_tableIn (pc := 80) (off := 81) (tgt := 161) hx hb dX1_carryCall_80 (by decide) (by decide) rfl rfl ?_
                  refine lv_aload_n (pc := 161) hx hb dX1_carryCall_161 rfl (lv_at hl 4 rfl) ?_
                  refine lv_iload (pc := 162) hx hb dX1_carryCall_162 (lv_at hl 2 rfl) ?_
                  refine lv_iload (pc := 164) hx hb dX1_carryCall_164 (lv_at hl 1 rfl) ?_
                  refine lv_aload_n (pc := 166) hx hb dX1_carryCall_166 rfl (lv_at hl 5 rfl) ?_
                  refine r_getN X hW 3 ciX4 0 rfl (by decide) m_567 rfl rfl dX1_carryCall_167 ?_
                  refine r_getN X hW 8 ciX10 8 rfl (by decide) m_309 rfl rfl dX1_carryCall_170 ?_
                  refine lv_iload (pc := 173) hx hb dX1_carryCall_173 (lv_at hl 2 rfl) ?_
                  refine r_iald X hW 9 rfl (vp_in_nI (by omega) (by decide)) dX1_carryCall_175 ?_
                  refine lv_topi (fun v29 ev29 => ?_)
                  obtain rfl : v29 = k8 (tN (pB t)) := ev29.trans (by rw [nI_clamp (by omega)])
                  refine lv_iconst (v := (-1)) (pc := 176) hx hb dX1_carryCall_176 (by decide) ?_
                  refine lv_ixor (pc := 177) hx hb dX1_carryCall_177 ?_
                  refine lv_iand (pc := 178) hx hb dX1_carryCall_178 ?_
                  refine c_Vi (pc := 179) (As := [.int (nI (tN (pB t))), .int ((kN (tN (pA t))) &&& ((k8 (tN (pB t))) ^^^ (-1 : Int32)))]) (rest := []) (wr := [(q, .inr (4, [.ref v, .int (nI pc), .ref q0, .ref q1, .ref q2, .ref q3, .ref q4, .ref q5, .ref q6])), (q1, .inl (g.2.1 1, 40, .inl pK)), (q2, .inl (g.2.1 1, 40, .inl pA)), (q3, .inl (g.2.1 1, 40, .inl pB)), (q6, .inl (g.2.1 1, 40, .inl pR)), (v, .inr (10, [.int pe, .int lc, .int de, .ref v3, .ref v4, .ref v5, .ref v6, .ref v7, .ref v8, .ref v9, .ref v10, .ref v11, .ref v12, .ref v13, .int gl, .ref v15])), (v8, .inl (g.2.1 1, 7, .inl k8))]) X hW 0 ciX1 rfl (K_X1_tell l g y0 yk yt yd yu yb kN tO (tN (pB t)) ((kN (tN (pA t))) &&& ((k8 (tN (pB t))) ^^^ (-1 : Int32))) (by omega)) vX1_77 [0, 1, 2] [3, 4, 5, 6, 7, 8, 9] rfl rfl rfl rfl rfl rfl hl.1 rfl (Nat.le_of_ble_eq_true rfl) ⟨Nat.le_of_ble_eq_true rfl, Nat.le_of_ble_eq_true rfl⟩ ⟨Nat.le_of_ble_eq_true rfl, Nat.le_of_ble_eq_true rfl⟩ dX1_carryCall_179 (fun r30 u9 H locs hq hW => ?_)
                  obtain ⟨rfl, rfl⟩ := hq
                  have hW : WD g A s _ _ [(q, .inr (4, [.ref v, .int (nI pc), .ref q0, .ref q1, .ref q2, .ref q3, .ref q4, .ref q5, .ref q6])), (q1, .inl (g.2.1 1, 40, .inl pK)), (q2, .inl (g.2.1 1, 40, .inl pA)), (q3, .inl (g.2.1 1, 40, .inl pB)), (q6, .inl (g.2.1 1, 40, .inl pR)), (v, .inr (10, [.int pe, .int lc, .int de, .ref v3, .ref v4, .ref v5, .ref v6, .ref v7, .ref v8, .ref v9, .ref v10, .ref v11, .ref v12, .ref v13, .int gl, .ref v15])), (v8, .inl (g.2.1 1, 7, .inl k8)), (y0, .inr (1, [.ref yk, .ref yt, .int yd, .long yu, .long yb])), (yk, .inl (g.2.1 1, 7, .inl ((F_X1_tell yd kN tO (tN (pB t)) ((kN (tN (pA t))) &&& ((k8 (tN (pB t))) ^^^ (-1 : Int32)))).2.1))), (yt, .inl (g.2.1 1, 7, .inl ((F_X1_tell yd kN tO (tN (pB t)) ((kN (tN (pA t))) &&& ((k8 (tN (pB t))) ^^^ (-1 : Int32)))).2.2)))] := hW
                  have hF : F_X1_carryCall yd kN tO t wo pK pA pB pR k8 = ((F_X1_tell yd kN tO (tN (pB t)) ((kN (tN (pA t))) &&& ((k8 (tN (pB t))) ^^^ (-1 : Int32)))).1, ((F_X1_tell yd kN tO (tN (pB t)) ((kN (tN (pA t))) &&& ((k8 (tN (pB t))) ^^^ (-1 : Int32)))).2.1), ((F_X1_tell yd kN tO (tN (pB t)) ((kN (tN (pA t))) &&& ((k8 (tN (pB t))) ^^^ (-1 : Int32)))).2.2)) := show F_X1_carryCall yd kN tO t wo pK pA pB pR k8 = ((F_X1_tell yd kN tO (tN (pB t)) ((kN (tN (pA t))) &&& ((k8 (tN (pB t))) ^^^ (-1 : Int32)))).1, ((F_X1_tell yd kN tO (tN (pB t)) ((kN (tN (pA t))) &&& ((k8 (tN (pB t))) ^^^ (-1 : Int32)))).2.1), ((F_X1_tell yd kN tO (tN (pB t)) ((kN (tN (pA t))) &&& ((k8 (tN (pB t))) ^^^ (-1 : Int32)))).2.2)) from by rw [F_X1_carryCall, if_neg c2, if_neg c5, if_neg c8, if_neg c13, if_neg c22, if_neg c24, if_neg c26, if_pos c28]
                  exact e_z (u := [(y0, .inr (1, [.ref yk, .ref yt, .int yd, .long yu, .long yb])), (yk, .inl (g.2.1 1, 7, .inl ((F_X1_tell yd kN tO (tN (pB t)) ((kN (tN (pA t))) &&& ((k8 (tN (pB t))) ^^^ (-1 : Int32)))).2.1))), (yt, .inl (g.2.1 1, 7, .inl ((F_X1_tell yd kN tO (tN (pB t)) ((kN (tN (pA t))) &&& ((k8 (tN (pB t))) ^^^ (-1 : Int32)))).2.2))), (q, .inr (4, [.ref v, .int (nI pc), .ref q0, .ref q1, .ref q2, .ref q3, .ref q4, .ref q5, .ref q6])), (q1, .inl (g.2.1 1, 40, .inl pK)), (q2, .inl (g.2.1 1, 40, .inl pA)), (q3, .inl (g.2.1 1, 40, .inl pB)), (q6, .inl (g.2.1 1, 40, .inl pR)), (v, .inr (10, [.int pe, .int lc, .int de, .ref v3, .ref v4, .ref v5, .ref v6, .ref v7, .ref v8, .ref v9, .ref v10, .ref v11, .ref v12, .ref v13, .int gl, .ref v15])), (v8, .inl (g.2.1 1, 7, .inl k8))]) X hQ hr (hW) (F_X1_tell_z ..) [7, 8, 9, 0, 1, 2, 3, 4, 5, 6] rfl rfl (⟨(congrArg Prod.fst hF).symm, by rw [hF]⟩) ⟨Nat.le_of_ble_eq_true rfl, Nat.le_of_ble_eq_true rfl⟩ dX1_carryCall_182
                · refine lv_tableOut (pc := 80) (tgt := 183) hx hb dX1_carryCall_80 (tab_out5 c13 c22 c24 c26 c28) rfl ?_
                  refine lv_aload_n (pc := 183) hx hb dX1_carryCall_183 rfl (lv_at hl 4 rfl) ?_
                  refine lv_iload (pc := 184) hx hb dX1_carryCall_184 (lv_at hl 2 rfl) ?_
                  refine lv_iload (pc := 186) hx hb dX1_carryCall_186 (lv_at hl 1 rfl) ?_
                  refine c_Vi (pc := 188) (As := [.int (nI (tN (pB t))), .int (kN (tN (pA t)))]) (rest := []) (wr := [(q, .inr (4, [.ref v, .int (nI pc), .ref q0, .ref q1, .ref q2, .ref q3, .ref q4, .ref q5, .ref q6])), (q1, .inl (g.2.1 1, 40, .inl pK)), (q2, .inl (g.2.1 1, 40, .inl pA)), (q3, .inl (g.2.1 1, 40, .inl pB)), (q6, .inl (g.2.1 1, 40, .inl pR)), (v, .inr (10, [.int pe, .int lc, .int de, .ref v3, .ref v4, .ref v5, .ref v6, .ref v7, .ref v8, .ref v9, .ref v10, .ref v11, .ref v12, .ref v13, .int gl, .ref v15])), (v8, .inl (g.2.1 1, 7, .inl k8))]) X hW 0 ciX1 rfl (K_X1_tell l g y0 yk yt yd yu yb kN tO (tN (pB t)) (kN (tN (pA t))) (by omega)) vX1_77 [0, 1, 2] [3, 4, 5, 6, 7, 8, 9] rfl rfl rfl rfl rfl rfl hl.1 rfl (Nat.le_of_ble_eq_true rfl) ⟨Nat.le_of_ble_eq_true rfl, Nat.le_of_ble_eq_true rfl⟩ ⟨Nat.le_of_ble_eq_true rfl, Nat.le_of_ble_eq_true rfl⟩ dX1_carryCall_188 (fun r31 u9 H locs hq hW => ?_)
                  obtain ⟨rfl, rfl⟩ := hq
                  have hW : WD g A s _ _ [(q, .inr (4, [.ref v, .int (nI pc), .ref q0, .ref q1, .ref q2, .ref q3, .ref q4, .ref q5, .ref q6])), (q1, .inl (g.2.1 1, 40, .inl pK)), (q2, .inl (g.2.1 1, 40, .inl pA)), (q3, .inl (g.2.1 1, 40, .inl pB)), (q6, .inl (g.2.1 1, 40, .inl pR)), (v, .inr (10, [.int pe, .int lc, .int de, .ref v3, .ref v4, .ref v5, .ref v6, .ref v7, .ref v8, .ref v9, .ref v10, .ref v11, .ref v12, .ref v13, .int gl, .ref v15])), (v8, .inl (g.2.1 1, 7, .inl k8)), (y0, .inr (1, [.ref yk, .ref yt, .int yd, .long yu, .long yb])), (yk, .inl (g.2.1 1, 7, .inl ((F_X1_tell yd kN tO (tN (pB t)) (kN (tN (pA t)))).2.1))), (yt, .inl (g.2.1 1, 7, .inl ((F_X1_tell yd kN tO (tN (pB t)) (kN (tN (pA t)))).2.2)))] := hW
                  have hF : F_X1_carryCall yd kN tO t wo pK pA pB pR k8 = ((F_X1_tell yd kN tO (tN (pB t)) (kN (tN (pA t)))).1, ((F_X1_tell yd kN tO (tN (pB t)) (kN (tN (pA t)))).2.1), ((F_X1_tell yd kN tO (tN (pB t)) (kN (tN (pA t)))).2.2)) := show F_X1_carryCall yd kN tO t wo pK pA pB pR k8 = ((F_X1_tell yd kN tO (tN (pB t)) (kN (tN (pA t)))).1, ((F_X1_tell yd kN tO (tN (pB t)) (kN (tN (pA t)))).2.1), ((F_X1_tell yd kN tO (tN (pB t)) (kN (tN (pA t)))).2.2)) from by rw [F_X1_carryCall, if_neg c2, if_neg c5, if_neg c8, if_neg c13, if_neg c22, if_neg c24, if_neg c26, if_neg c28]
                  exact e_z (u := [(y0, .inr (1, [.ref yk, .ref yt, .int yd, .long yu, .long yb])), (yk, .inl (g.2.1 1, 7, .inl ((F_X1_tell yd kN tO (tN (pB t)) (kN (tN (pA t)))).2.1))), (yt, .inl (g.2.1 1, 7, .inl ((F_X1_tell yd kN tO (tN (pB t)) (kN (tN (pA t)))).2.2))), (q, .inr (4, [.ref v, .int (nI pc), .ref q0, .ref q1, .ref q2, .ref q3, .ref q4, .ref q5, .ref q6])), (q1, .inl (g.2.1 1, 40, .inl pK)), (q2, .inl (g.2.1 1, 40, .inl pA)), (q3, .inl (g.2.1 1, 40, .inl pB)), (q6, .inl (g.2.1 1, 40, .inl pR)), (v, .inr (10, [.int pe, .int lc, .int de, .ref v3, .ref v4, .ref v5, .ref v6, .ref v7, .ref v8, .ref v9, .ref v10, .ref v11, .ref v12, .ref v13, .int gl, .ref v15])), (v8, .inl (g.2.1 1, 7, .inl k8))]) X hQ hr (hW) (F_X1_tell_z ..) [7, 8, 9, 0, 1, 2, 3, 4, 5, 6] rfl rfl (⟨(congrArg Prod.fst hF).symm, by rw [hF]⟩) ⟨Nat.le_of_ble_eq_true rfl, Nat.le_of_ble_eq_true rfl⟩ dX1_carryCall_191
      · refine lv_iconst (v := 0) (pc := 54) hx hb dX1_carryCall_54 (by decide) ?_
        have hF : F_X1_carryCall yd kN tO t wo pK pA pB pR k8 = ((0 : Int32), kN, tO) := show F_X1_carryCall yd kN tO t wo pK pA pB pR k8 = ((0 : Int32), kN, tO) from by rw [F_X1_carryCall, if_neg c2, if_neg c5, if_pos c8]
        exact e_z (u := [(y0, .inr (1, [.ref yk, .ref yt, .int yd, .long yu, .long yb])), (yk, .inl (g.2.1 1, 7, .inl kN)), (yt, .inl (g.2.1 1, 7, .inl tO)), (q, .inr (4, [.ref v, .int (nI pc), .ref q0, .ref q1, .ref q2, .ref q3, .ref q4, .ref q5, .ref q6])), (q1, .inl (g.2.1 1, 40, .inl pK)), (q2, .inl (g.2.1 1, 40, .inl pA)), (q3, .inl (g.2.1 1, 40, .inl pB)), (q6, .inl (g.2.1 1, 40, .inl pR)), (v, .inr (10, [.int pe, .int lc, .int de, .ref v3, .ref v4, .ref v5, .ref v6, .ref v7, .ref v8, .ref v9, .ref v10, .ref v11, .ref v12, .ref v13, .int gl, .ref v15])), (v8, .inl (g.2.1 1, 7, .inl k8))]) X hQ hr (hW) rfl [0, 1, 2, 3, 4, 5, 6, 7, 8, 9] rfl rfl (⟨(congrArg Prod.fst hF).symm, by rw [hF]⟩) ⟨Nat.le_of_ble_eq_true rfl, Nat.le_of_ble_eq_true rfl⟩ dX1_carryCall_55
    · refine lv_aload_n (pc := 26) hx hb dX1_carryCall_26 rfl (lv_at hl 1 rfl) ?_
      refine lv_iload (pc := 27) hx hb dX1_carryCall_27 (lv_at hl 0 rfl) ?_
      refine lv_aload_n (pc := 29) hx hb dX1_carryCall_29 rfl (lv_at hl 2 rfl) ?_
      refine r_getN X hW 3 ciX4 8 rfl (by decide) m_586 rfl rfl dX1_carryCall_30 ?_
      refine lv_iload_n (pc := 33) hx hb dX1_carryCall_33 rfl (lv_at hl 3 rfl) ?_
      refine r_iald X hW 7 rfl (vp_in_nI (by omega) (by decide)) dX1_carryCall_34 ?_
      refine lv_topi (fun v34 ev34 => ?_)
      obtain rfl : v34 = pR t := ev34.trans (by rw [nI_clamp (by omega)])
      refine lv_iload_n (pc := 35) hx hb dX1_carryCall_35 rfl (lv_at hl 4 rfl) ?_
      refine c_Vi (pc := 36) (As := [.int (nI (tN (pA t))), .int (pR t), .int wo]) (rest := []) (wr := [(q, .inr (4, [.ref v, .int (nI pc), .ref q0, .ref q1, .ref q2, .ref q3, .ref q4, .ref q5, .ref q6])), (q1, .inl (g.2.1 1, 40, .inl pK)), (q2, .inl (g.2.1 1, 40, .inl pA)), (q3, .inl (g.2.1 1, 40, .inl pB)), (q6, .inl (g.2.1 1, 40, .inl pR)), (v, .inr (10, [.int pe, .int lc, .int de, .ref v3, .ref v4, .ref v5, .ref v6, .ref v7, .ref v8, .ref v9, .ref v10, .ref v11, .ref v12, .ref v13, .int gl, .ref v15])), (v8, .inl (g.2.1 1, 7, .inl k8))]) X hW 0 ciX1 rfl (K_X1_shout l g y0 yk yt yd yu yb kN tO (tN (pA t)) (pR t) wo (by omega)) vX1_70 [0, 1, 2] [3, 4, 5, 6, 7, 8, 9] rfl rfl rfl rfl rfl rfl hl.1 rfl (Nat.le_of_ble_eq_true rfl) ⟨Nat.le_of_ble_eq_true rfl, Nat.le_of_ble_eq_true rfl⟩ ⟨Nat.le_of_ble_eq_true rfl, Nat.le_of_ble_eq_true rfl⟩ dX1_carryCall_36 (fun r35 u9 H locs hq hW => ?_)
      obtain ⟨rfl, rfl⟩ := hq
      have hW : WD g A s _ _ [(q, .inr (4, [.ref v, .int (nI pc), .ref q0, .ref q1, .ref q2, .ref q3, .ref q4, .ref q5, .ref q6])), (q1, .inl (g.2.1 1, 40, .inl pK)), (q2, .inl (g.2.1 1, 40, .inl pA)), (q3, .inl (g.2.1 1, 40, .inl pB)), (q6, .inl (g.2.1 1, 40, .inl pR)), (v, .inr (10, [.int pe, .int lc, .int de, .ref v3, .ref v4, .ref v5, .ref v6, .ref v7, .ref v8, .ref v9, .ref v10, .ref v11, .ref v12, .ref v13, .int gl, .ref v15])), (v8, .inl (g.2.1 1, 7, .inl k8)), (y0, .inr (1, [.ref yk, .ref yt, .int yd, .long yu, .long yb])), (yk, .inl (g.2.1 1, 7, .inl ((F_X1_shout yd kN tO (tN (pA t)) (pR t) wo).2.1))), (yt, .inl (g.2.1 1, 7, .inl ((F_X1_shout yd kN tO (tN (pA t)) (pR t) wo).2.2)))] := hW
      have hF : F_X1_carryCall yd kN tO t wo pK pA pB pR k8 = ((F_X1_shout yd kN tO (tN (pA t)) (pR t) wo).1, ((F_X1_shout yd kN tO (tN (pA t)) (pR t) wo).2.1), ((F_X1_shout yd kN tO (tN (pA t)) (pR t) wo).2.2)) := show F_X1_carryCall yd kN tO t wo pK pA pB pR k8 = ((F_X1_shout yd kN tO (tN (pA t)) (pR t) wo).1, ((F_X1_shout yd kN tO (tN (pA t)) (pR t) wo).2.1), ((F_X1_shout yd kN tO (tN (pA t)) (pR t) wo).2.2)) from by rw [F_X1_carryCall, if_neg c2, if_pos c5]
      exact e_z (u := [(y0, .inr (1, [.ref yk, .ref yt, .int yd, .long yu, .long yb])), (yk, .inl (g.2.1 1, 7, .inl ((F_X1_shout yd kN tO (tN (pA t)) (pR t) wo).2.1))), (yt, .inl (g.2.1 1, 7, .inl ((F_X1_shout yd kN tO (tN (pA t)) (pR t) wo).2.2))), (q, .inr (4, [.ref v, .int (nI pc), .ref q0, .ref q1, .ref q2, .ref q3, .ref q4, .ref q5, .ref q6])), (q1, .inl (g.2.1 1, 40, .inl pK)), (q2, .inl (g.2.1 1, 40, .inl pA)), (q3, .inl (g.2.1 1, 40, .inl pB)), (q6, .inl (g.2.1 1, 40, .inl pR)), (v, .inr (10, [.int pe, .int lc, .int de, .ref v3, .ref v4, .ref v5, .ref v6, .ref v7, .ref v8, .ref v9, .ref v10, .ref v11, .ref v12, .ref v13, .int gl, .ref v15])), (v8, .inl (g.2.1 1, 7, .inl k8))]) X hQ hr (hW) (F_X1_shout_z ..) [7, 8, 9, 0, 1, 2, 3, 4, 5, 6] rfl rfl (⟨(congrArg Prod.fst hF).symm, by rw [hF]⟩) ⟨Nat.le_of_ble_eq_true rfl, Nat.le_of_ble_eq_true rfl⟩ dX1_carryCall_39
  · refine lv_iconst (v := 0) (pc := 14) hx hb dX1_carryCall_14 (by decide) ?_
    have hF : F_X1_carryCall yd kN tO t wo pK pA pB pR k8 = ((0 : Int32), kN, tO) := show F_X1_carryCall yd kN tO t wo pK pA pB pR k8 = ((0 : Int32), kN, tO) from by rw [F_X1_carryCall, if_pos c2]
    exact e_z (u := [(y0, .inr (1, [.ref yk, .ref yt, .int yd, .long yu, .long yb])), (yk, .inl (g.2.1 1, 7, .inl kN)), (yt, .inl (g.2.1 1, 7, .inl tO)), (q, .inr (4, [.ref v, .int (nI pc), .ref q0, .ref q1, .ref q2, .ref q3, .ref q4, .ref q5, .ref q6])), (q1, .inl (g.2.1 1, 40, .inl pK)), (q2, .inl (g.2.1 1, 40, .inl pA)), (q3, .inl (g.2.1 1, 40, .inl pB)), (q6, .inl (g.2.1 1, 40, .inl pR)), (v, .inr (10, [.int pe, .int lc, .int de, .ref v3, .ref v4, .ref v5, .ref v6, .ref v7, .ref v8, .ref v9, .ref v10, .ref v11, .ref v12, .ref v13, .int gl, .ref v15])), (v8, .inl (g.2.1 1, 7, .inl k8))]) X hQ hr (hW) rfl [0, 1, 2, 3, 4, 5, 6, 7, 8, 9] rfl rfl (⟨(congrArg Prod.fst hF).symm, by rw [hF]⟩) ⟨Nat.le_of_ble_eq_true rfl, Nat.le_of_ble_eq_true rfl⟩ dX1_carryCall_15

def L2_X1_carry (pc : Nat) (de : Int32) (lh : Int32) (lo : Int64) (wo : Int32) (pH : Nat → Int32) (pK : Nat → Int32) (pA : Nat → Int32) (pB : Nat → Int32) (oE : Nat → Int32) (pW : Nat → Int32) (pR : Nat → Int32) (k8 : Nat → Int32) : Nat → Nat → (Nat → Int32) → (Nat → Int32) → Int64 → (Nat → Int32) × (Nat → Int32) × Int32 × Int64
  | 0, _, _, _, _ => (fun _ => 0, fun _ => 0, 0, 0)
  | m_ + 1, j2, fyk_2, fyt_2, y3_2 => if nI pc ≤ nI j2 then ((fyk_2, fyt_2, de, y3_2)) else (if pH (tN (oE j2)) ≤ lh then (if pW (tN (oE j2)) = 0 then (if lg_cmp ((lo >>> ((nI (tN (oE j2))).toInt64 &&& 63)) &&& (1 : Int64)) 0 = 0 then (if (F_X1_carryCall de fyk_2 fyt_2 (tN (oE j2)) wo pK pA pB pR k8).1 = 0 then (L2_X1_carry pc de lh lo wo pH pK pA pB oE pW pR k8 m_ (j2 + 1) ((F_X1_carryCall de fyk_2 fyt_2 (tN (oE j2)) wo pK pA pB pR k8).2.1) ((F_X1_carryCall de fyk_2 fyt_2 (tN (oE j2)) wo pK pA pB pR k8).2.2) y3_2) else (L2_X1_carry pc de lh lo wo pH pK pA pB oE pW pR k8 m_ (j2 + 1) ((F_X1_carryCall de fyk_2 fyt_2 (tN (oE j2)) wo pK pA pB pR k8).2.1) ((F_X1_carryCall de fyk_2 fyt_2 (tN (oE j2)) wo pK pA pB pR k8).2.2) (y3_2 ||| ((1 : Int64) <<< ((nI (tN (oE j2))).toInt64 &&& 63))))) else (L2_X1_carry pc de lh lo wo pH pK pA pB oE pW pR k8 m_ (j2 + 1) fyk_2 fyt_2 y3_2)) else (L2_X1_carry pc de lh lo wo pH pK pA pB oE pW pR k8 m_ (j2 + 1) fyk_2 fyt_2 y3_2)) else ((fyk_2, fyt_2, de, y3_2)))
def L1_X1_carrys (k6 : Nat → Int32) (j1 : Nat) (fyk_1 : Nat → Int32) (fyt_1 : Nat → Int32) : (Nat → Int32) × (Nat → Int32) := ((upd fyk_1 j1 (k6 j1)), (upd fyt_1 j1 (0 : Int32)))
def L1_X1_carry (k6 : Nat → Int32) (i0_ : Nat → Int32) (i1_ : Nat → Int32) : Nat → (Nat → Int32) × (Nat → Int32)
  | 0 => (i0_, i1_)
  | k_ + 1 => L1_X1_carrys k6 k_ ((L1_X1_carry k6 i0_ i1_ k_).1) ((L1_X1_carry k6 i0_ i1_ k_).2)
def F_X1_carry (kN : Nat → Int32) (tO : Nat → Int32) (pc : Nat) (de : Int32) (lh : Int32) (lo : Int64) (wo : Int32) (pH : Nat → Int32) (pK : Nat → Int32) (pA : Nat → Int32) (pB : Nat → Int32) (oE : Nat → Int32) (pW : Nat → Int32) (pR : Nat → Int32) (k6 : Nat → Int32) (k8 : Nat → Int32) : (Nat → Int32) × (Nat → Int32) × Int32 × Int64 := L2_X1_carry pc de lh lo wo pH pK pA pB oE pW pR k8 (pc + 1) 0 ((L1_X1_carry k6 kN tO 7).1) ((L1_X1_carry k6 kN tO 7).2) (0 : Int64)
set_option maxHeartbeats 4000000 in
set_option maxRecDepth 100000 in
theorem K_X1_carry (l : Launch) (g : GG) (y0 : Nat) (yk : Nat) (yt : Nat) (yd : Int32) (yu : Int64) (yb : Int64) (kN : Nat → Int32) (tO : Nat → Int32) (q : Nat) (q0 : Nat) (q1 : Nat) (q2 : Nat) (q3 : Nat) (q4 : Nat) (q5 : Nat) (q6 : Nat) (pc : Nat) (v : Nat) (v3 : Nat) (v4 : Nat) (v5 : Nat) (v6 : Nat) (v7 : Nat) (v8 : Nat) (v9 : Nat) (v10 : Nat) (v11 : Nat) (v12 : Nat) (v13 : Nat) (v15 : Nat) (pe : Int32) (lc : Int32) (de : Int32) (gl : Int32) (lh : Int32) (lo : Int64) (wo : Int32) (pH : Nat → Int32) (pK : Nat → Int32) (pA : Nat → Int32) (pB : Nat → Int32) (oE : Nat → Int32) (pW : Nat → Int32) (pR : Nat → Int32) (k6 : Nat → Int32) (k8 : Nat → Int32) (hp40 : pc ≤ 40) (hoe : ∀ j : Nat, j < 40 → oE j = nI (tN (oE j)) ∧ tN (oE j) < 40) (hCa : ∀ j : Nat, j < 40 → pA j = nI (tN (pA j)) ∧ tN (pA j) < 7) (hB : ∀ j : Nat, j < pc → ¬ pK (tN (oE j)) = 3 → pB (tN (oE j)) = nI (tN (pB (tN (oE j)))) ∧ tN (pB (tN (oE j))) < 7) : MetV l g yX1_carry cX1_carry 8 none 4 0 0 [.ref y0, .ref q, .int lh, .long lo, .int wo] [(y0, .inr (1, [.ref yk, .ref yt, .int yd, .long yu, .long yb])), (yk, .inl (g.2.1 1, 7, .inl kN)), (yt, .inl (g.2.1 1, 7, .inl tO)), (q, .inr (4, [.ref v, .int (nI pc), .ref q0, .ref q1, .ref q2, .ref q3, .ref q4, .ref q5, .ref q6])), (q0, .inl (g.2.1 1, 40, .inl pH)), (q1, .inl (g.2.1 1, 40, .inl pK)), (q2, .inl (g.2.1 1, 40, .inl pA)), (q3, .inl (g.2.1 1, 40, .inl pB)), (q4, .inl (g.2.1 1, 40, .inl oE)), (q5, .inl (g.2.1 1, 40, .inl pW)), (q6, .inl (g.2.1 1, 40, .inl pR)), (v, .inr (10, [.int pe, .int lc, .int de, .ref v3, .ref v4, .ref v5, .ref v6, .ref v7, .ref v8, .ref v9, .ref v10, .ref v11, .ref v12, .ref v13, .int gl, .ref v15])), (v6, .inl (g.2.1 1, 7, .inl k6)), (v8, .inl (g.2.1 1, 7, .inl k8))] (fun u => u = [(y0, .inr (1, [.ref yk, .ref yt, .int ((F_X1_carry kN tO pc de lh lo wo pH pK pA pB oE pW pR k6 k8).2.2.1), .long ((F_X1_carry kN tO pc de lh lo wo pH pK pA pB oE pW pR k6 k8).2.2.2), .long yb])), (yk, .inl (g.2.1 1, 7, .inl ((F_X1_carry kN tO pc de lh lo wo pH pK pA pB oE pW pR k6 k8).1))), (yt, .inl (g.2.1 1, 7, .inl ((F_X1_carry kN tO pc de lh lo wo pH pK pA pB oE pW pR k6 k8).2.1))), (q, .inr (4, [.ref v, .int (nI pc), .ref q0, .ref q1, .ref q2, .ref q3, .ref q4, .ref q5, .ref q6])), (q0, .inl (g.2.1 1, 40, .inl pH)), (q1, .inl (g.2.1 1, 40, .inl pK)), (q2, .inl (g.2.1 1, 40, .inl pA)), (q3, .inl (g.2.1 1, 40, .inl pB)), (q4, .inl (g.2.1 1, 40, .inl oE)), (q5, .inl (g.2.1 1, 40, .inl pW)), (q6, .inl (g.2.1 1, 40, .inl pR)), (v, .inr (10, [.int pe, .int lc, .int de, .ref v3, .ref v4, .ref v5, .ref v6, .ref v7, .ref v8, .ref v9, .ref v10, .ref v11, .ref v12, .ref v13, .int gl, .ref v15])), (v6, .inl (g.2.1 1, 7, .inl k6)), (v8, .inl (g.2.1 1, 7, .inl k8))]) := by
  refine MetV.of (own := RX1) rfl (by decide) (Nat.le_of_ble_eq_true rfl) ?_
  intro p e s m below meth c A ls args Q hQ X hr hin hW hl
  have hx := X.1
  have hb := X.2.1
  have hl : lv_has ls 8 [(0, .ref y0), (1, .ref q), (2, .int lh), (3, .long lo), (5, .int wo)] := hl
  refine lv_aload_n (pc := 0) hx hb dX1_carry_0 rfl (lv_at hl 0 rfl) ?_
  refine lv_aload_n (pc := 1) hx hb dX1_carry_1 rfl (lv_at hl 1 rfl) ?_
  refine r_getN X hW 3 ciX4 0 rfl (by decide) m_567 rfl rfl dX1_carry_2 ?_
  refine r_getN X hW 11 ciX10 2 rfl (by decide) m_286 rfl rfl dX1_carry_5 ?_
  refine r_put (ws' := [(y0, .inr (1, [.ref yk, .ref yt, .int de, .long yu, .long yb])), (yk, .inl (g.2.1 1, 7, .inl kN)), (yt, .inl (g.2.1 1, 7, .inl tO)), (q, .inr (4, [.ref v, .int (nI pc), .ref q0, .ref q1, .ref q2, .ref q3, .ref q4, .ref q5, .ref q6])), (q0, .inl (g.2.1 1, 40, .inl pH)), (q1, .inl (g.2.1 1, 40, .inl pK)), (q2, .inl (g.2.1 1, 40, .inl pA)), (q3, .inl (g.2.1 1, 40, .inl pB)), (q4, .inl (g.2.1 1, 40, .inl oE)), (q5, .inl (g.2.1 1, 40, .inl pW)), (q6, .inl (g.2.1 1, 40, .inl pR)), (v, .inr (10, [.int pe, .int lc, .int de, .ref v3, .ref v4, .ref v5, .ref v6, .ref v7, .ref v8, .ref v9, .ref v10, .ref v11, .ref v12, .ref v13, .int gl, .ref v15])), (v6, .inl (g.2.1 1, 7, .inl k6)), (v8, .inl (g.2.1 1, 7, .inl k8))]) X hW 0 ciX1 2 rfl (by decide) m_61 rfl rfl rfl rfl (Nat.le_of_ble_eq_true rfl) rfl dX1_carry_8 (fun H locs hW => ?_)
  refine lv_aload_n (pc := 11) hx hb dX1_carry_11 rfl (lv_at hl 0 rfl) ?_
  refine lv_lconst (v := 0) (pc := 12) hx hb dX1_carry_12 (by decide) ?_
  refine r_put (ws' := [(y0, .inr (1, [.ref yk, .ref yt, .int de, .long 0, .long yb])), (yk, .inl (g.2.1 1, 7, .inl kN)), (yt, .inl (g.2.1 1, 7, .inl tO)), (q, .inr (4, [.ref v, .int (nI pc), .ref q0, .ref q1, .ref q2, .ref q3, .ref q4, .ref q5, .ref q6])), (q0, .inl (g.2.1 1, 40, .inl pH)), (q1, .inl (g.2.1 1, 40, .inl pK)), (q2, .inl (g.2.1 1, 40, .inl pA)), (q3, .inl (g.2.1 1, 40, .inl pB)), (q4, .inl (g.2.1 1, 40, .inl oE)), (q5, .inl (g.2.1 1, 40, .inl pW)), (q6, .inl (g.2.1 1, 40, .inl pR)), (v, .inr (10, [.int pe, .int lc, .int de, .ref v3, .ref v4, .ref v5, .ref v6, .ref v7, .ref v8, .ref v9, .ref v10, .ref v11, .ref v12, .ref v13, .int gl, .ref v15])), (v6, .inl (g.2.1 1, 7, .inl k6)), (v8, .inl (g.2.1 1, 7, .inl k8))]) X hW 0 ciX1 3 rfl (by decide) m_62 rfl rfl rfl rfl (Nat.le_of_ble_eq_true rfl) rfl dX1_carry_13 (fun H locs hW => ?_)
  refine lv_iconst (v := 0) (pc := 16) hx hb dX1_carry_16 (by decide) ?_
  refine lv_istore (lv' := [(6, .int 0), (0, .ref y0), (1, .ref q), (2, .int lh), (3, .long lo), (5, .int wo)]) (pc := 17) hx hb dX1_carry_17 hl (by decide) rfl (fun ls hl => ?_)
  have loop1 : ∀ (fu1 : Nat) (j1 : Nat) (fyk_1 : Nat → Int32) (fyt_1 : Nat → Int32), (7 < fu1 + j1) → (j1 ≤ 7) → ((fyk_1, fyt_1) = L1_X1_carry k6 kN tO j1) → ∀ (H : Heap) (locs : List Loc) (ls : Array Slot), WD g A s H locs [(y0, .inr (1, [.ref yk, .ref yt, .int de, .long 0, .long yb])), (yk, .inl (g.2.1 1, 7, .inl fyk_1)), (yt, .inl (g.2.1 1, 7, .inl fyt_1)), (q, .inr (4, [.ref v, .int (nI pc), .ref q0, .ref q1, .ref q2, .ref q3, .ref q4, .ref q5, .ref q6])), (q0, .inl (g.2.1 1, 40, .inl pH)), (q1, .inl (g.2.1 1, 40, .inl pK)), (q2, .inl (g.2.1 1, 40, .inl pA)), (q3, .inl (g.2.1 1, 40, .inl pB)), (q4, .inl (g.2.1 1, 40, .inl oE)), (q5, .inl (g.2.1 1, 40, .inl pW)), (q6, .inl (g.2.1 1, 40, .inl pR)), (v, .inr (10, [.int pe, .int lc, .int de, .ref v3, .ref v4, .ref v5, .ref v6, .ref v7, .ref v8, .ref v9, .ref v10, .ref v11, .ref v12, .ref v13, .int gl, .ref v15])), (v6, .inl (g.2.1 1, 7, .inl k6)), (v8, .inl (g.2.1 1, 7, .inl k8))] → lv_has ls 8 [(6, .int (nI j1)), (0, .ref y0), (1, .ref q), (2, .int lh), (3, .long lo), (5, .int wo)] → W p l e (RM 4 0 0) s m args below meth c H locs 0 0 Q (F0 m 19 ls []) := by
    intro fu1
    induction fu1 with
    | zero =>
      intro j1 fyk_1 fyt_1 hm1 hj1 hst1
      exact absurd hm1 (by omega)
    | succ fu1 ih1 =>
      intro j1 fyk_1 fyt_1 hm1 hj1 hst1 H locs ls hW hl
      refine lv_iload (pc := 19) hx hb dX1_carry_19 (lv_at hl 0 rfl) ?_
      refine lv_bipush (v := 7) (pc := 21) hx hb dX1_carry_21 (by decide) ?_
      refine lv_icmp_ge (tgt := 57) (pc := 23) hx hb dX1_carry_23 rfl (fun c1 => ?_) (fun c1 => ?_)
      · have h2 : 7 ≤ j1 := (nI_leI (a := 7) (b := j1) (by omega) (by omega)).mp c1
        have hN1 : j1 = 7 := by omega
        rw [hN1] at hst1
        have hs1_0 : fyk_1 = (L1_X1_carry k6 kN tO 7).1 := congrArg (fun z => z.1) hst1
        have hs1_1 : fyt_1 = (L1_X1_carry k6 kN tO 7).2 := congrArg (fun z => z.2) hst1
        clear hst1
        subst hs1_0
        subst hs1_1
        have hW : WD g A s _ _ [(y0, .inr (1, [.ref yk, .ref yt, .int de, .long 0, .long yb])), (yk, .inl (g.2.1 1, 7, .inl ((L1_X1_carry k6 kN tO 7).1))), (yt, .inl (g.2.1 1, 7, .inl ((L1_X1_carry k6 kN tO 7).2))), (q, .inr (4, [.ref v, .int (nI pc), .ref q0, .ref q1, .ref q2, .ref q3, .ref q4, .ref q5, .ref q6])), (q0, .inl (g.2.1 1, 40, .inl pH)), (q1, .inl (g.2.1 1, 40, .inl pK)), (q2, .inl (g.2.1 1, 40, .inl pA)), (q3, .inl (g.2.1 1, 40, .inl pB)), (q4, .inl (g.2.1 1, 40, .inl oE)), (q5, .inl (g.2.1 1, 40, .inl pW)), (q6, .inl (g.2.1 1, 40, .inl pR)), (v, .inr (10, [.int pe, .int lc, .int de, .ref v3, .ref v4, .ref v5, .ref v6, .ref v7, .ref v8, .ref v9, .ref v10, .ref v11, .ref v12, .ref v13, .int gl, .ref v15])), (v6, .inl (g.2.1 1, 7, .inl k6)), (v8, .inl (g.2.1 1, 7, .inl k8))] := hW
        refine lv_iconst (v := 0) (pc := 57) hx hb dX1_carry_57 (by decide) ?_
        refine lv_istore (lv' := [(6, .int 0), (0, .ref y0), (1, .ref q), (2, .int lh), (3, .long lo), (5, .int wo)]) (pc := 58) hx hb dX1_carry_58 hl (by decide) rfl (fun ls hl => ?_)
        have loop2 : ∀ (fu2 : Nat) (j2 : Nat) (fyk_2 : Nat → Int32) (fyt_2 : Nat → Int32) (y3_2 : Int64), (pc < fu2 + j2) → (j2 ≤ pc) → (L2_X1_carry pc de lh lo wo pH pK pA pB oE pW pR k8 fu2 j2 fyk_2 fyt_2 y3_2 = F_X1_carry kN tO pc de lh lo wo pH pK pA pB oE pW pR k6 k8) → ∀ (H : Heap) (locs : List Loc) (ls : Array Slot), WD g A s H locs [(y0, .inr (1, [.ref yk, .ref yt, .int de, .long y3_2, .long yb])), (yk, .inl (g.2.1 1, 7, .inl fyk_2)), (yt, .inl (g.2.1 1, 7, .inl fyt_2)), (q, .inr (4, [.ref v, .int (nI pc), .ref q0, .ref q1, .ref q2, .ref q3, .ref q4, .ref q5, .ref q6])), (q0, .inl (g.2.1 1, 40, .inl pH)), (q1, .inl (g.2.1 1, 40, .inl pK)), (q2, .inl (g.2.1 1, 40, .inl pA)), (q3, .inl (g.2.1 1, 40, .inl pB)), (q4, .inl (g.2.1 1, 40, .inl oE)), (q5, .inl (g.2.1 1, 40, .inl pW)), (q6, .inl (g.2.1 1, 40, .inl pR)), (v, .inr (10, [.int pe, .int lc, .int de, .ref v3, .ref v4, .ref v5, .ref v6, .ref v7, .ref v8, .ref v9, .ref v10, .ref v11, .ref v12, .ref v13, .int gl, .ref v15])), (v6, .inl (g.2.1 1, 7, .inl k6)), (v8, .inl (g.2.1 1, 7, .inl k8))] → lv_has ls 8 [(6, .int (nI j2)), (0, .ref y0), (1, .ref q), (2, .int lh), (3, .long lo), (5, .int wo)] → W p l e (RM 4 0 0) s m args below meth c H locs 0 0 Q (F0 m 60 ls []) := by
          intro fu2
          induction fu2 with
          | zero =>
            intro j2 fyk_2 fyt_2 y3_2 hm2 hj2 hst2
            exact absurd hm2 (by omega)
          | succ fu2 ih2 =>
            intro j2 fyk_2 fyt_2 y3_2 hm2 hj2 hst2 H locs ls hW hl
            refine lv_iload (pc := 60) hx hb dX1_carry_60 (lv_at hl 0 rfl) ?_
            refine lv_aload_n (pc := 62) hx hb dX1_carry_62 rfl (lv_at hl 2 rfl) ?_
            refine r_getN X hW 3 ciX4 1 rfl (by decide) m_570 rfl rfl dX1_carry_63 ?_
            refine lv_icmp_ge (tgt := 142) (pc := 66) hx hb dX1_carry_66 rfl (fun c3 => ?_) (fun c3 => ?_)
            · have h4 : pc ≤ j2 := (nI_leI (a := pc) (b := j2) (by omega) (by omega)).mp c3
              have hF : F_X1_carry kN tO pc de lh lo wo pH pK pA pB oE pW pR k6 k8 = (fyk_2, fyt_2, de, y3_2) := hst2.symm.trans (show L2_X1_carry pc de lh lo wo pH pK pA pB oE pW pR k8 (fu2 + 1) j2 fyk_2 fyt_2 y3_2 = (fyk_2, fyt_2, de, y3_2) from by rw [L2_X1_carry, if_pos c3])
              exact e_v (u := [(y0, .inr (1, [.ref yk, .ref yt, .int de, .long y3_2, .long yb])), (yk, .inl (g.2.1 1, 7, .inl fyk_2)), (yt, .inl (g.2.1 1, 7, .inl fyt_2)), (q, .inr (4, [.ref v, .int (nI pc), .ref q0, .ref q1, .ref q2, .ref q3, .ref q4, .ref q5, .ref q6])), (q0, .inl (g.2.1 1, 40, .inl pH)), (q1, .inl (g.2.1 1, 40, .inl pK)), (q2, .inl (g.2.1 1, 40, .inl pA)), (q3, .inl (g.2.1 1, 40, .inl pB)), (q4, .inl (g.2.1 1, 40, .inl oE)), (q5, .inl (g.2.1 1, 40, .inl pW)), (q6, .inl (g.2.1 1, 40, .inl pR)), (v, .inr (10, [.int pe, .int lc, .int de, .ref v3, .ref v4, .ref v5, .ref v6, .ref v7, .ref v8, .ref v9, .ref v10, .ref v11, .ref v12, .ref v13, .int gl, .ref v15])), (v6, .inl (g.2.1 1, 7, .inl k6)), (v8, .inl (g.2.1 1, 7, .inl k8))]) X hQ hr (hW) [0, 1, 2, 3, 4, 5, 6, 7, 8, 9, 10, 11, 12, 13] rfl rfl (by rw [hF]) ⟨Nat.le_of_ble_eq_true rfl, Nat.le_of_ble_eq_true rfl⟩ dX1_carry_142
            · have h5 : ¬ (pc ≤ j2) := fun q => c3 ((nI_leI (a := pc) (b := j2) (by omega) (by omega)).mpr q)
              refine lv_aload_n (pc := 69) hx hb dX1_carry_69 rfl (lv_at hl 2 rfl) ?_
              refine r_getN X hW 3 ciX4 6 rfl (by decide) m_581 rfl rfl dX1_carry_70 ?_
              refine lv_iload (pc := 73) hx hb dX1_carry_73 (lv_at hl 0 rfl) ?_
              refine r_iald X hW 8 rfl (vp_in_nI (by omega) (by decide)) dX1_carry_75 ?_
              refine lv_topi (fun v6 ev6 => ?_)
              obtain rfl : v6 = oE j2 := ev6.trans (by rw [nI_clamp (by omega)])
              have hoj := hoe j2 (by omega)
              rw [hoj.1]
              have hoj2 := hoj.2
              have hCj := hCa (tN (oE j2)) hoj2
              refine lv_istore (lv' := [(7, .int (nI (tN (oE j2)))), (6, .int (nI j2)), (0, .ref y0), (1, .ref q), (2, .int lh), (3, .long lo), (5, .int wo)]) (pc := 76) hx hb dX1_carry_76 hl (by decide) rfl (fun ls hl => ?_)
              refine lv_aload_n (pc := 78) hx hb dX1_carry_78 rfl (lv_at hl 3 rfl) ?_
              refine r_getN X hW 3 ciX4 2 rfl (by decide) m_573 rfl rfl dX1_carry_79 ?_
              refine lv_iload (pc := 82) hx hb dX1_carry_82 (lv_at hl 0 rfl) ?_
              refine r_iald X hW 4 rfl (vp_in_nI (by omega) (by decide)) dX1_carry_84 ?_
              refine lv_topi (fun v7 ev7 => ?_)
              obtain rfl : v7 = pH (tN (oE j2)) := ev7.trans (by rw [nI_clamp (by omega)])
              refine lv_iload_n (pc := 85) hx hb dX1_carry_85 rfl (lv_at hl 4 rfl) ?_
              refine lv_icmp_le (tgt := 90) (pc := 86) hx hb dX1_carry_86 rfl (fun c8 => ?_) (fun c8 => ?_)
              · refine lv_aload_n (pc := 90) hx hb dX1_carry_90 rfl (lv_at hl 3 rfl) ?_
                refine r_getN X hW 3 ciX4 7 rfl (by decide) m_583 rfl rfl dX1_carry_91 ?_
                refine lv_iload (pc := 94) hx hb dX1_carry_94 (lv_at hl 0 rfl) ?_
                refine r_iald X hW 9 rfl (vp_in_nI (by omega) (by decide)) dX1_carry_96 ?_
                refine lv_topi (fun v10 ev10 => ?_)
                obtain rfl : v10 = pW (tN (oE j2)) := ev10.trans (by rw [nI_clamp (by omega)])
                refine lv_if_ne (tgt := 136) (pc := 97) hx hb dX1_carry_97 rfl (fun c11 => ?_) (fun c11 => ?_)
                · refine lv_iinc (v := nI (j2 + 1)) (lv' := [(6, .int (nI (j2 + 1))), (7, .int (nI (tN (oE j2)))), (0, .ref y0), (1, .ref q), (2, .int lh), (3, .long lo), (5, .int wo)]) (pc := 136) hx hb dX1_carry_136 hl (k := 1) rfl (nI_add j2 1) (by decide) rfl (fun ls hl => ?_)
                  refine lv_goto (tgt := 60) (pc := 139) hx hb dX1_carry_139 rfl ?_
                  exact ih2 (j2 + 1) fyk_2 fyt_2 y3_2 (by omega) (by omega) ((show L2_X1_carry pc de lh lo wo pH pK pA pB oE pW pR k8 (fu2 + 1) j2 fyk_2 fyt_2 y3_2 = L2_X1_carry pc de lh lo wo pH pK pA pB oE pW pR k8 fu2 (j2 + 1) fyk_2 fyt_2 y3_2 from by rw [L2_X1_carry, if_neg c3, if_pos c8, if_neg c11]).symm.trans hst2) _ _ _ hW (lv_sub hl [0, 2, 3, 4, 5, 6] rfl)
                · refine lv_lload_n (pc := 100) hx hb dX1_carry_100 rfl (lv_at hl 5 rfl) ?_
                  refine lv_iload (pc := 101) hx hb dX1_carry_101 (lv_at hl 0 rfl) ?_
                  refine lv_lshr (v := _) (pc := 103) hx hb dX1_carry_103 rfl ?_
                  refine lv_topl (fun v14 ev14 => ?_)
                  obtain rfl : v14 = lo >>> ((nI (tN (oE j2))).toInt64 &&& 63) := ev14.trans (rfl)
                  refine lv_lconst (v := 1) (pc := 104) hx hb dX1_carry_104 (by decide) ?_
                  refine lv_land (pc := 105) hx hb dX1_carry_105 ?_
                  refine lv_lconst (v := 0) (pc := 106) hx hb dX1_carry_106 (by decide) ?_
                  refine W.lcmp (pc := 107) hx hb dX1_carry_107 ?_
                  refine lv_if_ne (tgt := 136) (pc := 108) hx hb dX1_carry_108 rfl (fun c15 => ?_) (fun c15 => ?_)
                  · refine lv_iinc (v := nI (j2 + 1)) (lv' := [(6, .int (nI (j2 + 1))), (7, .int (nI (tN (oE j2)))), (0, .ref y0), (1, .ref q), (2, .int lh), (3, .long lo), (5, .int wo)]) (pc := 136) hx hb dX1_carry_136 hl (k := 1) rfl (nI_add j2 1) (by decide) rfl (fun ls hl => ?_)
                    refine lv_goto (tgt := 60) (pc := 139) hx hb dX1_carry_139 rfl ?_
                    exact ih2 (j2 + 1) fyk_2 fyt_2 y3_2 (by omega) (by omega) ((show L2_X1_carry pc de lh lo wo pH pK pA pB oE pW pR k8 (fu2 + 1) j2 fyk_2 fyt_2 y3_2 = L2_X1_carry pc de lh lo wo pH pK pA pB oE pW pR k8 fu2 (j2 + 1) fyk_2 fyt_2 y3_2 from by rw [L2_X1_carry, if_neg c3, if_pos c8, if_pos c11, if_neg c15]).symm.trans hst2) _ _ _ hW (lv_sub hl [0, 2, 3, 4, 5, 6] rfl)
                  · refine lv_aload_n (pc := 111) hx hb dX1_carry_111 rfl (lv_at hl 2 rfl) ?_
                    refine lv_aload_n (pc := 112) hx hb dX1_carry_112 rfl (lv_at hl 3 rfl) ?_
                    refine lv_iload (pc := 113) hx hb dX1_carry_113 (lv_at hl 0 rfl) ?_
                    refine lv_iload (pc := 115) hx hb dX1_carry_115 (lv_at hl 6 rfl) ?_
                    refine c_Vi (pc := 117) (As := [.ref q, .int (nI (tN (oE j2))), .int wo]) (rest := []) (wr := [(q0, .inl (g.2.1 1, 40, .inl pH)), (q4, .inl (g.2.1 1, 40, .inl oE)), (q5, .inl (g.2.1 1, 40, .inl pW)), (v6, .inl (g.2.1 1, 7, .inl k6))]) X hW 0 ciX1 rfl (K_X1_carryCall l g y0 yk yt de y3_2 yb fyk_2 fyt_2 q q0 q1 q2 q3 q4 q5 q6 pc v v3 v4 v5 v6 v7 v8 v9 v10 v11 v12 v13 v15 pe lc de gl (tN (oE j2)) wo pK pA pB pR k8 (by omega) hoj2 hCj.1 hCj.2 (hB j2 (by omega))) vX1_57 [0, 1, 2, 3, 5, 6, 7, 10, 11, 13] [4, 8, 9, 12] rfl rfl rfl rfl rfl rfl hl.1 rfl (Nat.le_of_ble_eq_true rfl) ⟨Nat.le_of_ble_eq_true rfl, Nat.le_of_ble_eq_true rfl⟩ ⟨Nat.le_of_ble_eq_true rfl, Nat.le_of_ble_eq_true rfl⟩ dX1_carry_117 (fun r18 u9 H locs hq hW => ?_)
                    obtain ⟨rfl, rfl⟩ := hq
                    have hW : WD g A s _ _ [(q0, .inl (g.2.1 1, 40, .inl pH)), (q4, .inl (g.2.1 1, 40, .inl oE)), (q5, .inl (g.2.1 1, 40, .inl pW)), (v6, .inl (g.2.1 1, 7, .inl k6)), (y0, .inr (1, [.ref yk, .ref yt, .int de, .long y3_2, .long yb])), (yk, .inl (g.2.1 1, 7, .inl ((F_X1_carryCall de fyk_2 fyt_2 (tN (oE j2)) wo pK pA pB pR k8).2.1))), (yt, .inl (g.2.1 1, 7, .inl ((F_X1_carryCall de fyk_2 fyt_2 (tN (oE j2)) wo pK pA pB pR k8).2.2))), (q, .inr (4, [.ref v, .int (nI pc), .ref q0, .ref q1, .ref q2, .ref q3, .ref q4, .ref q5, .ref q6])), (q1, .inl (g.2.1 1, 40, .inl pK)), (q2, .inl (g.2.1 1, 40, .inl pA)), (q3, .inl (g.2.1 1, 40, .inl pB)), (q6, .inl (g.2.1 1, 40, .inl pR)), (v, .inr (10, [.int pe, .int lc, .int de, .ref v3, .ref v4, .ref v5, .ref v6, .ref v7, .ref v8, .ref v9, .ref v10, .ref v11, .ref v12, .ref v13, .int gl, .ref v15])), (v8, .inl (g.2.1 1, 7, .inl k8))] := hW
                    refine lv_if_eq (tgt := 136) (pc := 120) hx hb dX1_carry_120 rfl (fun c19 => ?_) (fun c19 => ?_)
                    · refine lv_iinc (v := nI (j2 + 1)) (lv' := [(6, .int (nI (j2 + 1))), (7, .int (nI (tN (oE j2)))), (0, .ref y0), (1, .ref q), (2, .int lh), (3, .long lo), (5, .int wo)]) (pc := 136) hx hb dX1_carry_136 hl (k := 1) rfl (nI_add j2 1) (by decide) rfl (fun ls hl => ?_)
                      refine lv_goto (tgt := 60) (pc := 139) hx hb dX1_carry_139 rfl ?_
                      have hW : WD g A s _ _ [(y0, .inr (1, [.ref yk, .ref yt, .int de, .long y3_2, .long yb])), (yk, .inl (g.2.1 1, 7, .inl ((F_X1_carryCall de fyk_2 fyt_2 (tN (oE j2)) wo pK pA pB pR k8).2.1))), (yt, .inl (g.2.1 1, 7, .inl ((F_X1_carryCall de fyk_2 fyt_2 (tN (oE j2)) wo pK pA pB pR k8).2.2))), (q, .inr (4, [.ref v, .int (nI pc), .ref q0, .ref q1, .ref q2, .ref q3, .ref q4, .ref q5, .ref q6])), (q0, .inl (g.2.1 1, 40, .inl pH)), (q1, .inl (g.2.1 1, 40, .inl pK)), (q2, .inl (g.2.1 1, 40, .inl pA)), (q3, .inl (g.2.1 1, 40, .inl pB)), (q4, .inl (g.2.1 1, 40, .inl oE)), (q5, .inl (g.2.1 1, 40, .inl pW)), (q6, .inl (g.2.1 1, 40, .inl pR)), (v, .inr (10, [.int pe, .int lc, .int de, .ref v3, .ref v4, .ref v5, .ref v6, .ref v7, .ref v8, .ref v9, .ref v10, .ref v11, .ref v12, .ref v13, .int gl, .ref v15])), (v6, .inl (g.2.1 1, 7, .inl k6)), (v8, .inl (g.2.1 1, 7, .inl k8))] := hW.pick [4, 5, 6, 7, 0, 8, 9, 10, 1, 2, 11, 12, 3, 13] rfl rfl
                      exact ih2 (j2 + 1) ((F_X1_carryCall de fyk_2 fyt_2 (tN (oE j2)) wo pK pA pB pR k8).2.1) ((F_X1_carryCall de fyk_2 fyt_2 (tN (oE j2)) wo pK pA pB pR k8).2.2) y3_2 (by omega) (by omega) ((show L2_X1_carry pc de lh lo wo pH pK pA pB oE pW pR k8 (fu2 + 1) j2 fyk_2 fyt_2 y3_2 = L2_X1_carry pc de lh lo wo pH pK pA pB oE pW pR k8 fu2 (j2 + 1) ((F_X1_carryCall de fyk_2 fyt_2 (tN (oE j2)) wo pK pA pB pR k8).2.1) ((F_X1_carryCall de fyk_2 fyt_2 (tN (oE j2)) wo pK pA pB pR k8).2.2) y3_2 from by rw [L2_X1_carry, if_neg c3, if_pos c8, if_pos c11, if_pos c15, if_pos c19]).symm.trans hst2) _ _ _ hW (lv_sub hl [0, 2, 3, 4, 5, 6] rfl)
                    · refine lv_aload_n (pc := 123) hx hb dX1_carry_123 rfl (lv_at hl 2 rfl) ?_
                      refine lv_dup (pc := 124) hx hb dX1_carry_124 rfl ?_
                      refine r_get X hW 4 ciX1 3 rfl (by decide) m_62 rfl rfl dX1_carry_125 ?_
                      refine lv_lconst (v := 1) (pc := 128) hx hb dX1_carry_128 (by decide) ?_
                      refine lv_iload (pc := 129) hx hb dX1_carry_129 (lv_at hl 0 rfl) ?_
                      refine lv_lshl (v := _) (pc := 131) hx hb dX1_carry_131 rfl ?_
                      refine lv_topl (fun v22 ev22 => ?_)
                      obtain rfl : v22 = (1 : Int64) <<< ((nI (tN (oE j2))).toInt64 &&& 63) := ev22.trans (rfl)
                      refine lv_lor (pc := 132) hx hb dX1_carry_132 ?_
                      refine r_put (ws' := [(q0, .inl (g.2.1 1, 40, .inl pH)), (q4, .inl (g.2.1 1, 40, .inl oE)), (q5, .inl (g.2.1 1, 40, .inl pW)), (v6, .inl (g.2.1 1, 7, .inl k6)), (y0, .inr (1, [.ref yk, .ref yt, .int de, .long (y3_2 ||| ((1 : Int64) <<< ((nI (tN (oE j2))).toInt64 &&& 63))), .long yb])), (yk, .inl (g.2.1 1, 7, .inl ((F_X1_carryCall de fyk_2 fyt_2 (tN (oE j2)) wo pK pA pB pR k8).2.1))), (yt, .inl (g.2.1 1, 7, .inl ((F_X1_carryCall de fyk_2 fyt_2 (tN (oE j2)) wo pK pA pB pR k8).2.2))), (q, .inr (4, [.ref v, .int (nI pc), .ref q0, .ref q1, .ref q2, .ref q3, .ref q4, .ref q5, .ref q6])), (q1, .inl (g.2.1 1, 40, .inl pK)), (q2, .inl (g.2.1 1, 40, .inl pA)), (q3, .inl (g.2.1 1, 40, .inl pB)), (q6, .inl (g.2.1 1, 40, .inl pR)), (v, .inr (10, [.int pe, .int lc, .int de, .ref v3, .ref v4, .ref v5, .ref v6, .ref v7, .ref v8, .ref v9, .ref v10, .ref v11, .ref v12, .ref v13, .int gl, .ref v15])), (v8, .inl (g.2.1 1, 7, .inl k8))]) X hW 4 ciX1 3 rfl (by decide) m_62 rfl rfl rfl rfl (Nat.le_of_ble_eq_true rfl) rfl dX1_carry_133 (fun H locs hW => ?_)
                      refine lv_iinc (v := nI (j2 + 1)) (lv' := [(6, .int (nI (j2 + 1))), (7, .int (nI (tN (oE j2)))), (0, .ref y0), (1, .ref q), (2, .int lh), (3, .long lo), (5, .int wo)]) (pc := 136) hx hb dX1_carry_136 hl (k := 1) rfl (nI_add j2 1) (by decide) rfl (fun ls hl => ?_)
                      refine lv_goto (tgt := 60) (pc := 139) hx hb dX1_carry_139 rfl ?_
                      have hW : WD g A s _ _ [(y0, .inr (1, [.ref yk, .ref yt, .int de, .long (y3_2 ||| ((1 : Int64) <<< ((nI (tN (oE j2))).toInt64 &&& 63))), .long yb])), (yk, .inl (g.2.1 1, 7, .inl ((F_X1_carryCall de fyk_2 fyt_2 (tN (oE j2)) wo pK pA pB pR k8).2.1))), (yt, .inl (g.2.1 1, 7, .inl ((F_X1_carryCall de fyk_2 fyt_2 (tN (oE j2)) wo pK pA pB pR k8).2.2))), (q, .inr (4, [.ref v, .int (nI pc), .ref q0, .ref q1, .ref q2, .ref q3, .ref q4, .ref q5, .ref q6])), (q0, .inl (g.2.1 1, 40, .inl pH)), (q1, .inl (g.2.1 1, 40, .inl pK)), (q2, .inl (g.2.1 1, 40, .inl pA)), (q3, .inl (g.2.1 1, 40, .inl pB)), (q4, .inl (g.2.1 1, 40, .inl oE)), (q5, .inl (g.2.1 1, 40, .inl pW)), (q6, .inl (g.2.1 1, 40, .inl pR)), (v, .inr (10, [.int pe, .int lc, .int de, .ref v3, .ref v4, .ref v5, .ref v6, .ref v7, .ref v8, .ref v9, .ref v10, .ref v11, .ref v12, .ref v13, .int gl, .ref v15])), (v6, .inl (g.2.1 1, 7, .inl k6)), (v8, .inl (g.2.1 1, 7, .inl k8))] := hW.pick [4, 5, 6, 7, 0, 8, 9, 10, 1, 2, 11, 12, 3, 13] rfl rfl
                      exact ih2 (j2 + 1) ((F_X1_carryCall de fyk_2 fyt_2 (tN (oE j2)) wo pK pA pB pR k8).2.1) ((F_X1_carryCall de fyk_2 fyt_2 (tN (oE j2)) wo pK pA pB pR k8).2.2) (y3_2 ||| ((1 : Int64) <<< ((nI (tN (oE j2))).toInt64 &&& 63))) (by omega) (by omega) ((show L2_X1_carry pc de lh lo wo pH pK pA pB oE pW pR k8 (fu2 + 1) j2 fyk_2 fyt_2 y3_2 = L2_X1_carry pc de lh lo wo pH pK pA pB oE pW pR k8 fu2 (j2 + 1) ((F_X1_carryCall de fyk_2 fyt_2 (tN (oE j2)) wo pK pA pB pR k8).2.1) ((F_X1_carryCall de fyk_2 fyt_2 (tN (oE j2)) wo pK pA pB pR k8).2.2) (y3_2 ||| ((1 : Int64) <<< ((nI (tN (oE j2))).toInt64 &&& 63))) from by rw [L2_X1_carry, if_neg c3, if_pos c8, if_pos c11, if_pos c15, if_neg c19]).symm.trans hst2) _ _ _ hW (lv_sub hl [0, 2, 3, 4, 5, 6] rfl)
              · have hF : F_X1_carry kN tO pc de lh lo wo pH pK pA pB oE pW pR k6 k8 = (fyk_2, fyt_2, de, y3_2) := hst2.symm.trans (show L2_X1_carry pc de lh lo wo pH pK pA pB oE pW pR k8 (fu2 + 1) j2 fyk_2 fyt_2 y3_2 = (fyk_2, fyt_2, de, y3_2) from by rw [L2_X1_carry, if_neg c3, if_neg c8])
                exact e_v (u := [(y0, .inr (1, [.ref yk, .ref yt, .int de, .long y3_2, .long yb])), (yk, .inl (g.2.1 1, 7, .inl fyk_2)), (yt, .inl (g.2.1 1, 7, .inl fyt_2)), (q, .inr (4, [.ref v, .int (nI pc), .ref q0, .ref q1, .ref q2, .ref q3, .ref q4, .ref q5, .ref q6])), (q0, .inl (g.2.1 1, 40, .inl pH)), (q1, .inl (g.2.1 1, 40, .inl pK)), (q2, .inl (g.2.1 1, 40, .inl pA)), (q3, .inl (g.2.1 1, 40, .inl pB)), (q4, .inl (g.2.1 1, 40, .inl oE)), (q5, .inl (g.2.1 1, 40, .inl pW)), (q6, .inl (g.2.1 1, 40, .inl pR)), (v, .inr (10, [.int pe, .int lc, .int de, .ref v3, .ref v4, .ref v5, .ref v6, .ref v7, .ref v8, .ref v9, .ref v10, .ref v11, .ref v12, .ref v13, .int gl, .ref v15])), (v6, .inl (g.2.1 1, 7, .inl k6)), (v8, .inl (g.2.1 1, 7, .inl k8))]) X hQ hr (hW) [0, 1, 2, 3, 4, 5, 6, 7, 8, 9, 10, 11, 12, 13] rfl rfl (by rw [hF]) ⟨Nat.le_of_ble_eq_true rfl, Nat.le_of_ble_eq_true rfl⟩ dX1_carry_89
        exact loop2 (pc + 1) 0 ((L1_X1_carry k6 kN tO 7).1) ((L1_X1_carry k6 kN tO 7).2) (0 : Int64) (by omega) (by omega) (show F_X1_carry kN tO pc de lh lo wo pH pK pA pB oE pW pR k6 k8 = L2_X1_carry pc de lh lo wo pH pK pA pB oE pW pR k8 (pc + 1) 0 ((L1_X1_carry k6 kN tO 7).1) ((L1_X1_carry k6 kN tO 7).2) (0 : Int64) from rfl).symm _ _ _ hW (lv_sub hl [0, 1, 2, 3, 4, 5] rfl)
      · have h24 : ¬ (7 ≤ j1) := fun q => c1 ((nI_leI (a := 7) (b := j1) (by omega) (by omega)).mpr q)
        refine lv_aload_n (pc := 26) hx hb dX1_carry_26 rfl (lv_at hl 1 rfl) ?_
        refine r_get X hW 0 ciX1 0 rfl (by decide) m_58 rfl rfl dX1_carry_27 ?_
        refine lv_iload (pc := 30) hx hb dX1_carry_30 (lv_at hl 0 rfl) ?_
        refine lv_aload_n (pc := 32) hx hb dX1_carry_32 rfl (lv_at hl 2 rfl) ?_
        refine r_getN X hW 3 ciX4 0 rfl (by decide) m_567 rfl rfl dX1_carry_33 ?_
        refine r_getN X hW 11 ciX10 6 rfl (by decide) m_305 rfl rfl dX1_carry_36 ?_
        refine lv_iload (pc := 39) hx hb dX1_carry_39 (lv_at hl 0 rfl) ?_
        refine r_iald X hW 12 rfl (vp_in_nI (by omega) (by decide)) dX1_carry_41 ?_
        refine lv_topi (fun v25 ev25 => ?_)
        obtain rfl : v25 = k6 j1 := ev25.trans (by rw [nI_clamp (by omega)])
        refine r_iast (ws' := [(y0, .inr (1, [.ref yk, .ref yt, .int de, .long 0, .long yb])), (yk, .inl (g.2.1 1, 7, .inl (upd fyk_1 j1 (k6 j1)))), (yt, .inl (g.2.1 1, 7, .inl fyt_1)), (q, .inr (4, [.ref v, .int (nI pc), .ref q0, .ref q1, .ref q2, .ref q3, .ref q4, .ref q5, .ref q6])), (q0, .inl (g.2.1 1, 40, .inl pH)), (q1, .inl (g.2.1 1, 40, .inl pK)), (q2, .inl (g.2.1 1, 40, .inl pA)), (q3, .inl (g.2.1 1, 40, .inl pB)), (q4, .inl (g.2.1 1, 40, .inl oE)), (q5, .inl (g.2.1 1, 40, .inl pW)), (q6, .inl (g.2.1 1, 40, .inl pR)), (v, .inr (10, [.int pe, .int lc, .int de, .ref v3, .ref v4, .ref v5, .ref v6, .ref v7, .ref v8, .ref v9, .ref v10, .ref v11, .ref v12, .ref v13, .int gl, .ref v15])), (v6, .inl (g.2.1 1, 7, .inl k6)), (v8, .inl (g.2.1 1, 7, .inl k8))]) X hW 1 rfl (vp_in_nI (by omega) (by decide)) (f' := (upd fyk_1 j1 (k6 j1))) (by rw [nI_clamp (by omega)]) rfl dX1_carry_42 (fun H locs hW => ?_)
        refine lv_aload_n (pc := 43) hx hb dX1_carry_43 rfl (lv_at hl 1 rfl) ?_
        refine r_get X hW 0 ciX1 1 rfl (by decide) m_60 rfl rfl dX1_carry_44 ?_
        refine lv_iload (pc := 47) hx hb dX1_carry_47 (lv_at hl 0 rfl) ?_
        refine lv_iconst (v := 0) (pc := 49) hx hb dX1_carry_49 (by decide) ?_
        refine r_iast (ws' := [(y0, .inr (1, [.ref yk, .ref yt, .int de, .long 0, .long yb])), (yk, .inl (g.2.1 1, 7, .inl (upd fyk_1 j1 (k6 j1)))), (yt, .inl (g.2.1 1, 7, .inl (upd fyt_1 j1 (0 : Int32)))), (q, .inr (4, [.ref v, .int (nI pc), .ref q0, .ref q1, .ref q2, .ref q3, .ref q4, .ref q5, .ref q6])), (q0, .inl (g.2.1 1, 40, .inl pH)), (q1, .inl (g.2.1 1, 40, .inl pK)), (q2, .inl (g.2.1 1, 40, .inl pA)), (q3, .inl (g.2.1 1, 40, .inl pB)), (q4, .inl (g.2.1 1, 40, .inl oE)), (q5, .inl (g.2.1 1, 40, .inl pW)), (q6, .inl (g.2.1 1, 40, .inl pR)), (v, .inr (10, [.int pe, .int lc, .int de, .ref v3, .ref v4, .ref v5, .ref v6, .ref v7, .ref v8, .ref v9, .ref v10, .ref v11, .ref v12, .ref v13, .int gl, .ref v15])), (v6, .inl (g.2.1 1, 7, .inl k6)), (v8, .inl (g.2.1 1, 7, .inl k8))]) X hW 2 rfl (vp_in_nI (by omega) (by decide)) (f' := (upd fyt_1 j1 (0 : Int32))) (by rw [nI_clamp (by omega)]) rfl dX1_carry_50 (fun H locs hW => ?_)
        refine lv_iinc (v := nI (j1 + 1)) (lv' := [(6, .int (nI (j1 + 1))), (0, .ref y0), (1, .ref q), (2, .int lh), (3, .long lo), (5, .int wo)]) (pc := 51) hx hb dX1_carry_51 hl (k := 0) rfl (nI_add j1 1) (by decide) rfl (fun ls hl => ?_)
        refine lv_goto (tgt := 19) (pc := 54) hx hb dX1_carry_54 rfl ?_
        exact ih1 (j1 + 1) (upd fyk_1 j1 (k6 j1)) (upd fyt_1 j1 (0 : Int32)) (by omega) (by omega) (by rw [L1_X1_carry, ← hst1]; exact (show L1_X1_carrys k6 j1 fyk_1 fyt_1 = ((upd fyk_1 j1 (k6 j1)), (upd fyt_1 j1 (0 : Int32))) from rfl).symm) _ _ _ hW (lv_sub hl [0, 1, 2, 3, 4, 5] rfl)
  exact loop1 (7 + 1) 0 kN tO (by omega) (by omega) rfl _ _ _ hW (lv_sub hl [0, 1, 2, 3, 4, 5] rfl)

def F_X1_carryAll (kN : Nat → Int32) (tO : Nat → Int32) (pc : Nat) (de : Int32) (lh : Int32) (pH : Nat → Int32) (pK : Nat → Int32) (pA : Nat → Int32) (pB : Nat → Int32) (oE : Nat → Int32) (pW : Nat → Int32) (pR : Nat → Int32) (k6 : Nat → Int32) (k8 : Nat → Int32) (K : Nat → Int32) : (Nat → Int32) × (Nat → Int32) × Int32 × Int64 × (Nat → Int32) × (Nat → Int32) := (((F_X1_carry kN tO pc de lh (0 : Int64) (-1 : Int32) pH pK pA pB oE ((F_X4_judge pc pH pK pA pB oE pW pR K).1) ((F_X4_judge pc pH pK pA pB oE pW pR K).2) k6 k8).1), ((F_X1_carry kN tO pc de lh (0 : Int64) (-1 : Int32) pH pK pA pB oE ((F_X4_judge pc pH pK pA pB oE pW pR K).1) ((F_X4_judge pc pH pK pA pB oE pW pR K).2) k6 k8).2.1), (F_X1_carry kN tO pc de lh (0 : Int64) (-1 : Int32) pH pK pA pB oE ((F_X4_judge pc pH pK pA pB oE pW pR K).1) ((F_X4_judge pc pH pK pA pB oE pW pR K).2) k6 k8).2.2.1, (F_X1_carry kN tO pc de lh (0 : Int64) (-1 : Int32) pH pK pA pB oE ((F_X4_judge pc pH pK pA pB oE pW pR K).1) ((F_X4_judge pc pH pK pA pB oE pW pR K).2) k6 k8).2.2.2, ((F_X4_judge pc pH pK pA pB oE pW pR K).1), ((F_X4_judge pc pH pK pA pB oE pW pR K).2))
set_option maxHeartbeats 4000000 in
set_option maxRecDepth 100000 in
theorem K_X1_carryAll (l : Launch) (g : GG) (y0 : Nat) (yk : Nat) (yt : Nat) (yd : Int32) (yu : Int64) (yb : Int64) (kN : Nat → Int32) (tO : Nat → Int32) (q : Nat) (q0 : Nat) (q1 : Nat) (q2 : Nat) (q3 : Nat) (q4 : Nat) (q5 : Nat) (q6 : Nat) (pc : Nat) (v : Nat) (v3 : Nat) (v4 : Nat) (v5 : Nat) (v6 : Nat) (v7 : Nat) (v8 : Nat) (v9 : Nat) (v10 : Nat) (v11 : Nat) (v12 : Nat) (v13 : Nat) (v15 : Nat) (pe : Int32) (lc : Int32) (de : Int32) (gl : Int32) (lh : Int32) (pH : Nat → Int32) (pK : Nat → Int32) (pA : Nat → Int32) (pB : Nat → Int32) (oE : Nat → Int32) (pW : Nat → Int32) (pR : Nat → Int32) (k6 : Nat → Int32) (k8 : Nat → Int32) (K : Nat → Int32) (hp40 : pc ≤ 40) (hoe : ∀ j : Nat, j < 40 → oE j = nI (tN (oE j)) ∧ tN (oE j) < 40) (hH : ∀ j : Nat, j < 40 → pH j = nI (tN (pH j)) ∧ tN (pH j) ≤ 24) (hCa : ∀ j : Nat, j < 40 → pA j = nI (tN (pA j)) ∧ tN (pA j) < 7) (hB : ∀ j : Nat, j < pc → ¬ pK (tN (oE j)) = 3 → pB (tN (oE j)) = nI (tN (pB (tN (oE j)))) ∧ tN (pB (tN (oE j))) < 7) : MetV l g yX1_carryAll cX1_carryAll 3 none 5 0 0 [.ref y0, .ref q, .int lh] [(y0, .inr (1, [.ref yk, .ref yt, .int yd, .long yu, .long yb])), (yk, .inl (g.2.1 1, 7, .inl kN)), (yt, .inl (g.2.1 1, 7, .inl tO)), (q, .inr (4, [.ref v, .int (nI pc), .ref q0, .ref q1, .ref q2, .ref q3, .ref q4, .ref q5, .ref q6])), (q0, .inl (g.2.1 1, 40, .inl pH)), (q1, .inl (g.2.1 1, 40, .inl pK)), (q2, .inl (g.2.1 1, 40, .inl pA)), (q3, .inl (g.2.1 1, 40, .inl pB)), (q4, .inl (g.2.1 1, 40, .inl oE)), (q5, .inl (g.2.1 1, 40, .inl pW)), (q6, .inl (g.2.1 1, 40, .inl pR)), (v, .inr (10, [.int pe, .int lc, .int de, .ref v3, .ref v4, .ref v5, .ref v6, .ref v7, .ref v8, .ref v9, .ref v10, .ref v11, .ref v12, .ref v13, .int gl, .ref v15])), (v6, .inl (g.2.1 1, 7, .inl k6)), (v8, .inl (g.2.1 1, 7, .inl k8)), (v10, .inl (g.2.1 1, 175, .inl K))] (fun u => u = [(y0, .inr (1, [.ref yk, .ref yt, .int ((F_X1_carryAll kN tO pc de lh pH pK pA pB oE pW pR k6 k8 K).2.2.1), .long ((F_X1_carryAll kN tO pc de lh pH pK pA pB oE pW pR k6 k8 K).2.2.2.1), .long yb])), (yk, .inl (g.2.1 1, 7, .inl ((F_X1_carryAll kN tO pc de lh pH pK pA pB oE pW pR k6 k8 K).1))), (yt, .inl (g.2.1 1, 7, .inl ((F_X1_carryAll kN tO pc de lh pH pK pA pB oE pW pR k6 k8 K).2.1))), (q, .inr (4, [.ref v, .int (nI pc), .ref q0, .ref q1, .ref q2, .ref q3, .ref q4, .ref q5, .ref q6])), (q0, .inl (g.2.1 1, 40, .inl pH)), (q1, .inl (g.2.1 1, 40, .inl pK)), (q2, .inl (g.2.1 1, 40, .inl pA)), (q3, .inl (g.2.1 1, 40, .inl pB)), (q4, .inl (g.2.1 1, 40, .inl oE)), (q5, .inl (g.2.1 1, 40, .inl ((F_X1_carryAll kN tO pc de lh pH pK pA pB oE pW pR k6 k8 K).2.2.2.2.1))), (q6, .inl (g.2.1 1, 40, .inl ((F_X1_carryAll kN tO pc de lh pH pK pA pB oE pW pR k6 k8 K).2.2.2.2.2))), (v, .inr (10, [.int pe, .int lc, .int de, .ref v3, .ref v4, .ref v5, .ref v6, .ref v7, .ref v8, .ref v9, .ref v10, .ref v11, .ref v12, .ref v13, .int gl, .ref v15])), (v6, .inl (g.2.1 1, 7, .inl k6)), (v8, .inl (g.2.1 1, 7, .inl k8)), (v10, .inl (g.2.1 1, 175, .inl K))]) := by
  refine MetV.of (own := RX1) rfl (by decide) (Nat.le_of_ble_eq_true rfl) ?_
  intro p e s m below meth c A ls args Q hQ X hr hin hW hl
  have hx := X.1
  have hb := X.2.1
  have hl : lv_has ls 3 [(0, .ref y0), (1, .ref q), (2, .int lh)] := hl
  refine lv_aload_n (pc := 0) hx hb dX1_carryAll_0 rfl (lv_at hl 1 rfl) ?_
  refine c_Vv (pc := 1) (As := []) (rest := []) (wr := [(y0, .inr (1, [.ref yk, .ref yt, .int yd, .long yu, .long yb])), (yk, .inl (g.2.1 1, 7, .inl kN)), (yt, .inl (g.2.1 1, 7, .inl tO)), (v6, .inl (g.2.1 1, 7, .inl k6)), (v8, .inl (g.2.1 1, 7, .inl k8))]) X hW 3 ciX4 rfl (K_X4_judge l g q q0 q1 q2 q3 q4 q5 q6 pc v v3 v4 v5 v6 v7 v8 v9 v10 v11 v12 v13 v15 pe lc de gl pH pK pA pB oE pW pR K (by omega) hoe hH hCa) vX1_18 [3, 4, 5, 6, 7, 8, 9, 10, 11, 14] [0, 1, 2, 12, 13] rfl rfl rfl rfl rfl rfl hl.1 rfl (Nat.le_of_ble_eq_true rfl) ⟨Nat.le_of_ble_eq_true rfl, Nat.le_of_ble_eq_true rfl⟩ ⟨Nat.le_of_ble_eq_true rfl, Nat.le_of_ble_eq_true rfl⟩ dX1_carryAll_1 (fun u9 H locs hq hW => ?_)
  obtain rfl := hq
  have hW : WD g A s _ _ [(y0, .inr (1, [.ref yk, .ref yt, .int yd, .long yu, .long yb])), (yk, .inl (g.2.1 1, 7, .inl kN)), (yt, .inl (g.2.1 1, 7, .inl tO)), (v6, .inl (g.2.1 1, 7, .inl k6)), (v8, .inl (g.2.1 1, 7, .inl k8)), (q, .inr (4, [.ref v, .int (nI pc), .ref q0, .ref q1, .ref q2, .ref q3, .ref q4, .ref q5, .ref q6])), (q0, .inl (g.2.1 1, 40, .inl pH)), (q1, .inl (g.2.1 1, 40, .inl pK)), (q2, .inl (g.2.1 1, 40, .inl pA)), (q3, .inl (g.2.1 1, 40, .inl pB)), (q4, .inl (g.2.1 1, 40, .inl oE)), (q5, .inl (g.2.1 1, 40, .inl ((F_X4_judge pc pH pK pA pB oE pW pR K).1))), (q6, .inl (g.2.1 1, 40, .inl ((F_X4_judge pc pH pK pA pB oE pW pR K).2))), (v, .inr (10, [.int pe, .int lc, .int de, .ref v3, .ref v4, .ref v5, .ref v6, .ref v7, .ref v8, .ref v9, .ref v10, .ref v11, .ref v12, .ref v13, .int gl, .ref v15])), (v10, .inl (g.2.1 1, 175, .inl K))] := hW
  refine lv_aload_n (pc := 4) hx hb dX1_carryAll_4 rfl (lv_at hl 0 rfl) ?_
  refine lv_aload_n (pc := 5) hx hb dX1_carryAll_5 rfl (lv_at hl 1 rfl) ?_
  refine lv_iload_n (pc := 6) hx hb dX1_carryAll_6 rfl (lv_at hl 2 rfl) ?_
  refine lv_lconst (v := 0) (pc := 7) hx hb dX1_carryAll_7 (by decide) ?_
  refine lv_iconst (v := (-1)) (pc := 8) hx hb dX1_carryAll_8 (by decide) ?_
  refine c_Vv (pc := 9) (As := [.ref q, .int lh, .long 0, .int (-1)]) (rest := []) (wr := [(v10, .inl (g.2.1 1, 175, .inl K))]) X hW 0 ciX1 rfl (K_X1_carry l g y0 yk yt yd yu yb kN tO q q0 q1 q2 q3 q4 q5 q6 pc v v3 v4 v5 v6 v7 v8 v9 v10 v11 v12 v13 v15 pe lc de gl lh (0 : Int64) (-1 : Int32) pH pK pA pB oE ((F_X4_judge pc pH pK pA pB oE pW pR K).1) ((F_X4_judge pc pH pK pA pB oE pW pR K).2) k6 k8 (by omega) hoe hCa hB) vX1_23 [0, 1, 2, 5, 6, 7, 8, 9, 10, 11, 12, 13, 3, 4] [14] rfl rfl rfl rfl rfl rfl hl.1 rfl (Nat.le_of_ble_eq_true rfl) ⟨Nat.le_of_ble_eq_true rfl, Nat.le_of_ble_eq_true rfl⟩ ⟨Nat.le_of_ble_eq_true rfl, Nat.le_of_ble_eq_true rfl⟩ dX1_carryAll_9 (fun u9 H locs hq hW => ?_)
  obtain rfl := hq
  have hW : WD g A s _ _ [(v10, .inl (g.2.1 1, 175, .inl K)), (y0, .inr (1, [.ref yk, .ref yt, .int ((F_X1_carry kN tO pc de lh (0 : Int64) (-1 : Int32) pH pK pA pB oE ((F_X4_judge pc pH pK pA pB oE pW pR K).1) ((F_X4_judge pc pH pK pA pB oE pW pR K).2) k6 k8).2.2.1), .long ((F_X1_carry kN tO pc de lh (0 : Int64) (-1 : Int32) pH pK pA pB oE ((F_X4_judge pc pH pK pA pB oE pW pR K).1) ((F_X4_judge pc pH pK pA pB oE pW pR K).2) k6 k8).2.2.2), .long yb])), (yk, .inl (g.2.1 1, 7, .inl ((F_X1_carry kN tO pc de lh (0 : Int64) (-1 : Int32) pH pK pA pB oE ((F_X4_judge pc pH pK pA pB oE pW pR K).1) ((F_X4_judge pc pH pK pA pB oE pW pR K).2) k6 k8).1))), (yt, .inl (g.2.1 1, 7, .inl ((F_X1_carry kN tO pc de lh (0 : Int64) (-1 : Int32) pH pK pA pB oE ((F_X4_judge pc pH pK pA pB oE pW pR K).1) ((F_X4_judge pc pH pK pA pB oE pW pR K).2) k6 k8).2.1))), (q, .inr (4, [.ref v, .int (nI pc), .ref q0, .ref q1, .ref q2, .ref q3, .ref q4, .ref q5, .ref q6])), (q0, .inl (g.2.1 1, 40, .inl pH)), (q1, .inl (g.2.1 1, 40, .inl pK)), (q2, .inl (g.2.1 1, 40, .inl pA)), (q3, .inl (g.2.1 1, 40, .inl pB)), (q4, .inl (g.2.1 1, 40, .inl oE)), (q5, .inl (g.2.1 1, 40, .inl ((F_X4_judge pc pH pK pA pB oE pW pR K).1))), (q6, .inl (g.2.1 1, 40, .inl ((F_X4_judge pc pH pK pA pB oE pW pR K).2))), (v, .inr (10, [.int pe, .int lc, .int de, .ref v3, .ref v4, .ref v5, .ref v6, .ref v7, .ref v8, .ref v9, .ref v10, .ref v11, .ref v12, .ref v13, .int gl, .ref v15])), (v6, .inl (g.2.1 1, 7, .inl k6)), (v8, .inl (g.2.1 1, 7, .inl k8))] := hW
  have hF : F_X1_carryAll kN tO pc de lh pH pK pA pB oE pW pR k6 k8 K = (((F_X1_carry kN tO pc de lh (0 : Int64) (-1 : Int32) pH pK pA pB oE ((F_X4_judge pc pH pK pA pB oE pW pR K).1) ((F_X4_judge pc pH pK pA pB oE pW pR K).2) k6 k8).1), ((F_X1_carry kN tO pc de lh (0 : Int64) (-1 : Int32) pH pK pA pB oE ((F_X4_judge pc pH pK pA pB oE pW pR K).1) ((F_X4_judge pc pH pK pA pB oE pW pR K).2) k6 k8).2.1), (F_X1_carry kN tO pc de lh (0 : Int64) (-1 : Int32) pH pK pA pB oE ((F_X4_judge pc pH pK pA pB oE pW pR K).1) ((F_X4_judge pc pH pK pA pB oE pW pR K).2) k6 k8).2.2.1, (F_X1_carry kN tO pc de lh (0 : Int64) (-1 : Int32) pH pK pA pB oE ((F_X4_judge pc pH pK pA pB oE pW pR K).1) ((F_X4_judge pc pH pK pA pB oE pW pR K).2) k6 k8).2.2.2, ((F_X4_judge pc pH pK pA pB oE pW pR K).1), ((F_X4_judge pc pH pK pA pB oE pW pR K).2)) := show F_X1_carryAll kN tO pc de lh pH pK pA pB oE pW pR k6 k8 K = (((F_X1_carry kN tO pc de lh (0 : Int64) (-1 : Int32) pH pK pA pB oE ((F_X4_judge pc pH pK pA pB oE pW pR K).1) ((F_X4_judge pc pH pK pA pB oE pW pR K).2) k6 k8).1), ((F_X1_carry kN tO pc de lh (0 : Int64) (-1 : Int32) pH pK pA pB oE ((F_X4_judge pc pH pK pA pB oE pW pR K).1) ((F_X4_judge pc pH pK pA pB oE pW pR K).2) k6 k8).2.1), (F_X1_carry kN tO pc de lh (0 : Int64) (-1 : Int32) pH pK pA pB oE ((F_X4_judge pc pH pK pA pB oE pW pR K).1) ((F_X4_judge pc pH pK pA pB oE pW pR K).2) k6 k8).2.2.1, (F_X1_carry kN tO pc de lh (0 : Int64) (-1 : Int32) pH pK pA pB oE ((F_X4_judge pc pH pK pA pB oE pW pR K).1) ((F_X4_judge pc pH pK pA pB oE pW pR K).2) k6 k8).2.2.2, ((F_X4_judge pc pH pK pA pB oE pW pR K).1), ((F_X4_judge pc pH pK pA pB oE pW pR K).2)) from rfl
  exact e_v (u := [(y0, .inr (1, [.ref yk, .ref yt, .int ((F_X1_carry kN tO pc de lh (0 : Int64) (-1 : Int32) pH pK pA pB oE ((F_X4_judge pc pH pK pA pB oE pW pR K).1) ((F_X4_judge pc pH pK pA pB oE pW pR K).2) k6 k8).2.2.1), .long ((F_X1_carry kN tO pc de lh (0 : Int64) (-1 : Int32) pH pK pA pB oE ((F_X4_judge pc pH pK pA pB oE pW pR K).1) ((F_X4_judge pc pH pK pA pB oE pW pR K).2) k6 k8).2.2.2), .long yb])), (yk, .inl (g.2.1 1, 7, .inl ((F_X1_carry kN tO pc de lh (0 : Int64) (-1 : Int32) pH pK pA pB oE ((F_X4_judge pc pH pK pA pB oE pW pR K).1) ((F_X4_judge pc pH pK pA pB oE pW pR K).2) k6 k8).1))), (yt, .inl (g.2.1 1, 7, .inl ((F_X1_carry kN tO pc de lh (0 : Int64) (-1 : Int32) pH pK pA pB oE ((F_X4_judge pc pH pK pA pB oE pW pR K).1) ((F_X4_judge pc pH pK pA pB oE pW pR K).2) k6 k8).2.1))), (q, .inr (4, [.ref v, .int (nI pc), .ref q0, .ref q1, .ref q2, .ref q3, .ref q4, .ref q5, .ref q6])), (q0, .inl (g.2.1 1, 40, .inl pH)), (q1, .inl (g.2.1 1, 40, .inl pK)), (q2, .inl (g.2.1 1, 40, .inl pA)), (q3, .inl (g.2.1 1, 40, .inl pB)), (q4, .inl (g.2.1 1, 40, .inl oE)), (q5, .inl (g.2.1 1, 40, .inl ((F_X4_judge pc pH pK pA pB oE pW pR K).1))), (q6, .inl (g.2.1 1, 40, .inl ((F_X4_judge pc pH pK pA pB oE pW pR K).2))), (v, .inr (10, [.int pe, .int lc, .int de, .ref v3, .ref v4, .ref v5, .ref v6, .ref v7, .ref v8, .ref v9, .ref v10, .ref v11, .ref v12, .ref v13, .int gl, .ref v15])), (v6, .inl (g.2.1 1, 7, .inl k6)), (v8, .inl (g.2.1 1, 7, .inl k8)), (v10, .inl (g.2.1 1, 175, .inl K))]) X hQ hr (hW) [1, 2, 3, 4, 5, 6, 7, 8, 9, 10, 11, 12, 13, 14, 0] rfl rfl (by rw [hF]) ⟨Nat.le_of_ble_eq_true rfl, Nat.le_of_ble_eq_true rfl⟩ dX1_carryAll_12

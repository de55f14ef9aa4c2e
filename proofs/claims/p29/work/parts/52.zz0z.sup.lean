theorem dX11_breaks_1 : decode cX11_breaks 1 = .ok (.iload_n 1, 1) := by decide +kernel
theorem dX11_breaks_0 : decode cX11_breaks 0 = .ok (.aload_n 0, 1) := by decide +kernel
theorem dX11_breaks_15 : decode cX11_breaks 15 = .ok (.iconst (-1), 1) := by decide +kernel
theorem dX11_breaks_2 : decode cX11_breaks 2 = .ok (.invokevirtual 157, 3) := by decide +kernel
theorem dX11_breaks_6 : decode cX11_breaks 6 = .ok (.aload_n 3, 1) := by decide +kernel
theorem dX11_breaks_7 : decode cX11_breaks 7 = .ok (.ifnull 8, 3) := by decide +kernel
theorem dX11_breaks_16 : decode cX11_breaks 16 = .ok (.ireturn, 1) := by decide +kernel
theorem dX11_breaks_5 : decode cX11_breaks 5 = .ok (.astore_n 3, 1) := by decide +kernel
theorem F_X12_bears_z {rD : Nat → Int32} {rK : Nat → Int32} {rS : Nat → Int32} {pH : Nat → Int32} {pK : Nat → Int32} {pA : Nat → Int32} {pW : Nat → Int32} {pR : Nat → Int32} {aF : Nat → Int32} {oN : Nat → Int32} {fR : Nat → Int32} {tW : Nat → Int32} {rM : Nat → Int32} {pe : Nat} {i : Nat} {v9 : Nat} {cn : Nat} {lo : Int64} {wo : Int32} : narrow .boolean (.int ((F_X12_bears rD rK rS pH pK pA pW pR aF oN fR tW rM pe i v9 cn lo wo).1)) = .int ((F_X12_bears rD rK rS pH pK pA pW pR aF oN fR tW rM pe i v9 cn lo wo).1) := by unfold F_X12_bears; (repeat' split) <;> first | rfl | (dsimp only; rfl) | exact F_X12_allKnow_z .. | (dsimp only; exact F_X12_allKnow_z ..)
theorem dX12_breaks_1 : decode cX12_breaks 1 = .ok (.iconst 0, 1) := by decide +kernel
theorem dX12_breaks_5 : decode cX12_breaks 5 = .ok (.aload_n 0, 1) := by decide +kernel
theorem dX12_breaks_0 : decode cX12_breaks 0 = .ok (.aload_n 0, 1) := by decide +kernel
theorem dX12_breaks_14 : decode cX12_breaks 14 = .ok (.ireturn, 1) := by decide +kernel
theorem dX12_breaks_10 : decode cX12_breaks 10 = .ok (.ifCond .ne 5, 3) := by decide +kernel
theorem dX12_breaks_7 : decode cX12_breaks 7 = .ok (.invokevirtual 247, 3) := by decide +kernel
theorem dX12_breaks_13 : decode cX12_breaks 13 = .ok (.iconst (-1), 1) := by decide +kernel
theorem dX12_breaks_6 : decode cX12_breaks 6 = .ok (.iload_n 1, 1) := by decide +kernel
theorem dX12_breaks_2 : decode cX12_breaks 2 = .ok (.putfield 160, 3) := by decide +kernel

/-- the shifts by which both sides read a number's bytes -/
def sh : Nat → Int32
  | 0 => 24
  | 1 => 16
  | 2 => 8
  | 3 => 0
  | _ => (-8)
theorem sh_neg : ∀ j, j < 5 → (sh j < 0 ↔ j = 4) := by decide +kernel
theorem sh_step : ∀ j, j < 4 → sh j + Int32.ofInt (-8) = sh (j + 1) := by decide +kernel
def byx (v : Int32) (j : Nat) : Int32 := (v.toUInt32 >>> ((sh j).toUInt32 &&& Int32.toUInt32 31)).toInt32 &&& 255
def byz (v : Int32) (j : Nat) : Int32 := (v >>> (sh j &&& 31)) &&& 255
theorem byz_n (n : Nat) (hn : n < 25) (v : Int32) : (v >>> (nI n &&& 31)) &&& 255 = (v.toUInt32 >>> ((nI n).toUInt32 &&& Int32.toUInt32 31)).toInt32 &&& 255 := by
  refine b_ext fun i hi => ?_
  rw [b_and, b_and, b_sshr n (by omega) v hi, b_ushr n (by omega) v i, b_255]
  by_cases h : i < 8
  · rw [if_pos (by omega)]
  · simp [h]
theorem byz_eq (v : Int32) (j : Nat) (hj : j < 4) : byz v j = byx v j := by
  rcases (show j = 0 ∨ j = 1 ∨ j = 2 ∨ j = 3 by omega) with rfl | rfl | rfl | rfl
  · exact byz_n 24 (by decide) v
  · exact byz_n 16 (by decide) v
  · exact byz_n 8 (by decide) v
  · exact byz_n 0 (by decide) v
/-- how many of the first j bytes aren't 0 -/
def cnt (v : Int32) : Nat → Nat
  | 0 => 0
  | j + 1 => cnt v j + (if byx v j = 0 then 0 else 1)
theorem cnt_s0 {v : Int32} {j : Nat} (h : byx v j = 0) : cnt v (j + 1) = cnt v j := by simp [cnt, h]
theorem cnt_s1 {v : Int32} {j : Nat} (h : ¬ byx v j = 0) : cnt v (j + 1) = cnt v j + 1 := by simp [cnt, h]
theorem cnt_mono (v : Int32) (j : Nat) : cnt v j ≤ cnt v (j + 1) := by simp only [cnt]; omega
theorem cnt_le (v : Int32) (j : Nat) (hj : j ≤ 4) : cnt v j ≤ cnt v 4 := by
  have h0 : cnt v 0 ≤ cnt v 1 := cnt_mono v 0
  have h1 : cnt v 1 ≤ cnt v 2 := cnt_mono v 1
  have h2 : cnt v 2 ≤ cnt v 3 := cnt_mono v 2
  have h3 : cnt v 3 ≤ cnt v 4 := cnt_mono v 3
  rcases (show j = 0 ∨ j = 1 ∨ j = 2 ∨ j = 3 ∨ j = 4 by omega) with rfl | rfl | rfl | rfl | rfl <;> omega
theorem cnt_4 (v : Int32) : cnt v 4 ≤ 4 := by
  simp only [cnt]
  split <;> split <;> split <;> split <;> omega
/-- end(n) of an empty tape: true for 0 alone -/
def ev (n : Int32) : Int32 := if n = 0 then 1 else 0
theorem m_406 : (Cond.code yX8_bytesIn prog_10_method_5_code 3 (Option.some FieldType.int)) ∈ BW := bw (tb2 166 rfl) (by decide +kernel)
theorem dX8_bytesIn_0 : decode cX8_bytesIn 0 = .ok (.iconst 0, 1) := DX8_bytesIn _ _ _ rfl
theorem dX8_bytesIn_1 : decode cX8_bytesIn 1 = .ok (.istore_n 1, 1) := DX8_bytesIn _ _ _ rfl
theorem dX8_bytesIn_2 : decode cX8_bytesIn 2 = .ok (.bipush 24, 2) := DX8_bytesIn _ _ _ rfl
theorem dX8_bytesIn_4 : decode cX8_bytesIn 4 = .ok (.istore_n 2, 1) := DX8_bytesIn _ _ _ rfl
theorem dX8_bytesIn_5 : decode cX8_bytesIn 5 = .ok (.iload_n 2, 1) := DX8_bytesIn _ _ _ rfl
theorem dX8_bytesIn_6 : decode cX8_bytesIn 6 = .ok (.ifCond .lt 22, 3) := DX8_bytesIn _ _ _ rfl
theorem dX8_bytesIn_28 : decode cX8_bytesIn 28 = .ok (.iload_n 1, 1) := DX8_bytesIn _ _ _ rfl
theorem dX8_bytesIn_29 : decode cX8_bytesIn 29 = .ok (.ireturn, 1) := DX8_bytesIn _ _ _ rfl
theorem dX8_bytesIn_9 : decode cX8_bytesIn 9 = .ok (.iload_n 0, 1) := DX8_bytesIn _ _ _ rfl
theorem dX8_bytesIn_10 : decode cX8_bytesIn 10 = .ok (.iload_n 2, 1) := DX8_bytesIn _ _ _ rfl
theorem dX8_bytesIn_11 : decode cX8_bytesIn 11 = .ok (.iushr, 1) := DX8_bytesIn _ _ _ rfl
theorem dX8_bytesIn_12 : decode cX8_bytesIn 12 = .ok (.sipush 255, 3) := DX8_bytesIn _ _ _ rfl
theorem dX8_bytesIn_15 : decode cX8_bytesIn 15 = .ok (.iand, 1) := DX8_bytesIn _ _ _ rfl
theorem dX8_bytesIn_16 : decode cX8_bytesIn 16 = .ok (.ifCond .eq 6, 3) := DX8_bytesIn _ _ _ rfl
theorem dX8_bytesIn_22 : decode cX8_bytesIn 22 = .ok (.iinc 2 (-8), 3) := DX8_bytesIn _ _ _ rfl
theorem dX8_bytesIn_25 : decode cX8_bytesIn 25 = .ok (.goto (-20), 3) := DX8_bytesIn _ _ _ rfl
theorem dX8_bytesIn_19 : decode cX8_bytesIn 19 = .ok (.iinc 1 1, 3) := DX8_bytesIn _ _ _ rfl
theorem m_1427 : (Cond.code yX12_bytesIn prog_14_method_4_code 3 (Option.some FieldType.int)) ∈ BW := bw (tb6 227 rfl) (by decide +kernel)
theorem dX12_bytesIn_0 : decode cX12_bytesIn 0 = .ok (.iconst 0, 1) := DX12_bytesIn _ _ _ rfl
theorem dX12_bytesIn_1 : decode cX12_bytesIn 1 = .ok (.istore_n 1, 1) := DX12_bytesIn _ _ _ rfl
theorem dX12_bytesIn_2 : decode cX12_bytesIn 2 = .ok (.bipush 24, 2) := DX12_bytesIn _ _ _ rfl
theorem dX12_bytesIn_4 : decode cX12_bytesIn 4 = .ok (.istore_n 2, 1) := DX12_bytesIn _ _ _ rfl
theorem dX12_bytesIn_5 : decode cX12_bytesIn 5 = .ok (.iload_n 2, 1) := DX12_bytesIn _ _ _ rfl
theorem dX12_bytesIn_6 : decode cX12_bytesIn 6 = .ok (.ifCond .lt 27, 3) := DX12_bytesIn _ _ _ rfl
theorem dX12_bytesIn_33 : decode cX12_bytesIn 33 = .ok (.iload_n 1, 1) := DX12_bytesIn _ _ _ rfl
theorem dX12_bytesIn_34 : decode cX12_bytesIn 34 = .ok (.ireturn, 1) := DX12_bytesIn _ _ _ rfl
theorem dX12_bytesIn_9 : decode cX12_bytesIn 9 = .ok (.iload_n 1, 1) := DX12_bytesIn _ _ _ rfl
theorem dX12_bytesIn_10 : decode cX12_bytesIn 10 = .ok (.iload_n 0, 1) := DX12_bytesIn _ _ _ rfl
theorem dX12_bytesIn_11 : decode cX12_bytesIn 11 = .ok (.iload_n 2, 1) := DX12_bytesIn _ _ _ rfl
theorem dX12_bytesIn_12 : decode cX12_bytesIn 12 = .ok (.ishr, 1) := DX12_bytesIn _ _ _ rfl
theorem dX12_bytesIn_13 : decode cX12_bytesIn 13 = .ok (.sipush 255, 3) := DX12_bytesIn _ _ _ rfl
theorem dX12_bytesIn_16 : decode cX12_bytesIn 16 = .ok (.iand, 1) := DX12_bytesIn _ _ _ rfl
theorem dX12_bytesIn_17 : decode cX12_bytesIn 17 = .ok (.ifCond .eq 7, 3) := DX12_bytesIn _ _ _ rfl
theorem dX12_bytesIn_24 : decode cX12_bytesIn 24 = .ok (.iconst 0, 1) := DX12_bytesIn _ _ _ rfl
theorem dX12_bytesIn_25 : decode cX12_bytesIn 25 = .ok (.iadd, 1) := DX12_bytesIn _ _ _ rfl
theorem dX12_bytesIn_26 : decode cX12_bytesIn 26 = .ok (.istore_n 1, 1) := DX12_bytesIn _ _ _ rfl
theorem dX12_bytesIn_27 : decode cX12_bytesIn 27 = .ok (.iinc 2 (-8), 3) := DX12_bytesIn _ _ _ rfl
theorem dX12_bytesIn_30 : decode cX12_bytesIn 30 = .ok (.goto (-25), 3) := DX12_bytesIn _ _ _ rfl
theorem dX12_bytesIn_20 : decode cX12_bytesIn 20 = .ok (.iconst 1, 1) := DX12_bytesIn _ _ _ rfl
theorem dX12_bytesIn_21 : decode cX12_bytesIn 21 = .ok (.goto 4, 3) := DX12_bytesIn _ _ _ rfl
theorem m_410 : (Cond.code yX8_appendNumber prog_10_method_6_code 4 (Option.none : Option Jvm.ClassFile.FieldType)) ∈ BW := bw (tb2 170 rfl) (by decide +kernel)
theorem dX8_appendNumber_0 : decode cX8_appendNumber 0 = .ok (.bipush 24, 2) := DX8_appendNumber _ _ _ rfl
theorem dX8_appendNumber_2 : decode cX8_appendNumber 2 = .ok (.istore_n 2, 1) := DX8_appendNumber _ _ _ rfl
theorem dX8_appendNumber_3 : decode cX8_appendNumber 3 = .ok (.iload_n 2, 1) := DX8_appendNumber _ _ _ rfl
theorem dX8_appendNumber_4 : decode cX8_appendNumber 4 = .ok (.ifCond .lt 51, 3) := DX8_appendNumber _ _ _ rfl
theorem dX8_appendNumber_55 : decode cX8_appendNumber 55 = .ok (.return_, 1) := DX8_appendNumber _ _ _ rfl
theorem dX8_appendNumber_7 : decode cX8_appendNumber 7 = .ok (.iload_n 1, 1) := DX8_appendNumber _ _ _ rfl
theorem dX8_appendNumber_8 : decode cX8_appendNumber 8 = .ok (.iload_n 2, 1) := DX8_appendNumber _ _ _ rfl
theorem dX8_appendNumber_9 : decode cX8_appendNumber 9 = .ok (.iushr, 1) := DX8_appendNumber _ _ _ rfl
theorem dX8_appendNumber_10 : decode cX8_appendNumber 10 = .ok (.sipush 255, 3) := DX8_appendNumber _ _ _ rfl
theorem dX8_appendNumber_13 : decode cX8_appendNumber 13 = .ok (.iand, 1) := DX8_appendNumber _ _ _ rfl
theorem dX8_appendNumber_14 : decode cX8_appendNumber 14 = .ok (.istore_n 3, 1) := DX8_appendNumber _ _ _ rfl
theorem dX8_appendNumber_15 : decode cX8_appendNumber 15 = .ok (.iload_n 3, 1) := DX8_appendNumber _ _ _ rfl
theorem dX8_appendNumber_16 : decode cX8_appendNumber 16 = .ok (.ifCond .eq 33, 3) := DX8_appendNumber _ _ _ rfl
theorem dX8_appendNumber_49 : decode cX8_appendNumber 49 = .ok (.iinc 2 (-8), 3) := DX8_appendNumber _ _ _ rfl
theorem dX8_appendNumber_52 : decode cX8_appendNumber 52 = .ok (.goto (-49), 3) := DX8_appendNumber _ _ _ rfl
theorem dX8_appendNumber_19 : decode cX8_appendNumber 19 = .ok (.aload_n 0, 1) := DX8_appendNumber _ _ _ rfl
theorem m_37 : (Cond.fieldLink "NoonValley$Tape" 19 "NoonValley$Tape" "length" "I") ∈ BW := bw (tb1 37 (by decide +kernel)) (by decide +kernel)
theorem dX8_appendNumber_20 : decode cX8_appendNumber 20 = .ok (.getfield 19, 3) := DX8_appendNumber _ _ _ rfl
theorem dX8_appendNumber_23 : decode cX8_appendNumber 23 = .ok (.sipush 400, 3) := DX8_appendNumber _ _ _ rfl
theorem dX8_appendNumber_26 : decode cX8_appendNumber 26 = .ok (.if_icmp .ge 23, 3) := DX8_appendNumber _ _ _ rfl
theorem dX8_appendNumber_29 : decode cX8_appendNumber 29 = .ok (.aload_n 0, 1) := DX8_appendNumber _ _ _ rfl
theorem dX8_appendNumber_30 : decode cX8_appendNumber 30 = .ok (.getfield 11, 3) := DX8_appendNumber _ _ _ rfl
theorem dX8_appendNumber_33 : decode cX8_appendNumber 33 = .ok (.aload_n 0, 1) := DX8_appendNumber _ _ _ rfl
theorem dX8_appendNumber_34 : decode cX8_appendNumber 34 = .ok (.getfield 19, 3) := DX8_appendNumber _ _ _ rfl
theorem dX8_appendNumber_37 : decode cX8_appendNumber 37 = .ok (.iload_n 3, 1) := DX8_appendNumber _ _ _ rfl
theorem dX8_appendNumber_38 : decode cX8_appendNumber 38 = .ok (.iastore, 1) := DX8_appendNumber _ _ _ rfl
theorem dX8_appendNumber_39 : decode cX8_appendNumber 39 = .ok (.aload_n 0, 1) := DX8_appendNumber _ _ _ rfl
theorem dX8_appendNumber_40 : decode cX8_appendNumber 40 = .ok (.dup, 1) := DX8_appendNumber _ _ _ rfl
theorem dX8_appendNumber_41 : decode cX8_appendNumber 41 = .ok (.getfield 19, 3) := DX8_appendNumber _ _ _ rfl
theorem dX8_appendNumber_44 : decode cX8_appendNumber 44 = .ok (.iconst 1, 1) := DX8_appendNumber _ _ _ rfl
theorem dX8_appendNumber_45 : decode cX8_appendNumber 45 = .ok (.iadd, 1) := DX8_appendNumber _ _ _ rfl
theorem dX8_appendNumber_46 : decode cX8_appendNumber 46 = .ok (.putfield 19, 3) := DX8_appendNumber _ _ _ rfl
theorem m_403 : (Cond.code yX8_append prog_10_method_2_code 7 (Option.some FieldType.int)) ∈ BW := bw (tb2 163 rfl) (by decide +kernel)
theorem dX8_append_0 : decode cX8_append 0 = .ok (.iload_n 1, 1) := DX8_append _ _ _ rfl
theorem m_404 : (Cond.methodLink "NoonValley$Tape" 15 yX8_bytesIn) ∈ BW := bw (tb2 164 (by decide +kernel)) (by decide +kernel)
theorem m_405 : (Cond.static yX8_bytesIn) ∈ BW := bw (tb2 165 (by decide +kernel)) (by decide +kernel)
theorem vX8_15 : LST RX8 15 yX8_bytesIn cX8_bytesIn 3 (some .int) 1 := ⟨m_404, m_405, m_2, m_406, by decide, by decide, by decide +kernel⟩
theorem dX8_append_1 : decode cX8_append 1 = .ok (.invokestatic 15, 3) := DX8_append _ _ _ rfl
theorem dX8_append_4 : decode cX8_append 4 = .ok (.iload_n 2, 1) := DX8_append _ _ _ rfl
theorem dX8_append_5 : decode cX8_append 5 = .ok (.invokestatic 15, 3) := DX8_append _ _ _ rfl
theorem dX8_append_8 : decode cX8_append 8 = .ok (.iadd, 1) := DX8_append _ _ _ rfl
theorem dX8_append_9 : decode cX8_append 9 = .ok (.iload_n 3, 1) := DX8_append _ _ _ rfl
theorem dX8_append_10 : decode cX8_append 10 = .ok (.invokestatic 15, 3) := DX8_append _ _ _ rfl
theorem dX8_append_13 : decode cX8_append 13 = .ok (.iadd, 1) := DX8_append _ _ _ rfl
theorem dX8_append_14 : decode cX8_append 14 = .ok (.iload 4, 2) := DX8_append _ _ _ rfl
theorem dX8_append_16 : decode cX8_append 16 = .ok (.invokestatic 15, 3) := DX8_append _ _ _ rfl
theorem dX8_append_19 : decode cX8_append 19 = .ok (.iadd, 1) := DX8_append _ _ _ rfl
theorem dX8_append_20 : decode cX8_append 20 = .ok (.iload 5, 2) := DX8_append _ _ _ rfl
theorem dX8_append_22 : decode cX8_append 22 = .ok (.invokestatic 15, 3) := DX8_append _ _ _ rfl
theorem dX8_append_25 : decode cX8_append 25 = .ok (.iadd, 1) := DX8_append _ _ _ rfl
theorem dX8_append_26 : decode cX8_append 26 = .ok (.istore 6, 2) := DX8_append _ _ _ rfl
theorem dX8_append_28 : decode cX8_append 28 = .ok (.aload_n 0, 1) := DX8_append _ _ _ rfl
theorem dX8_append_29 : decode cX8_append 29 = .ok (.getfield 19, 3) := DX8_append _ _ _ rfl
theorem dX8_append_32 : decode cX8_append 32 = .ok (.iload 6, 2) := DX8_append _ _ _ rfl
theorem dX8_append_34 : decode cX8_append 34 = .ok (.iadd, 1) := DX8_append _ _ _ rfl
theorem dX8_append_35 : decode cX8_append 35 = .ok (.sipush 400, 3) := DX8_append _ _ _ rfl
theorem dX8_append_38 : decode cX8_append 38 = .ok (.if_icmp .le 5, 3) := DX8_append _ _ _ rfl
theorem dX8_append_43 : decode cX8_append 43 = .ok (.aload_n 0, 1) := DX8_append _ _ _ rfl
theorem dX8_append_44 : decode cX8_append 44 = .ok (.iload_n 1, 1) := DX8_append _ _ _ rfl
theorem m_407 : (Cond.methodLink "NoonValley$Tape" 23 yX8_appendNumber) ∈ BW := bw (tb2 167 (by decide +kernel)) (by decide +kernel)
theorem m_409 : (Cond.instanceMethod yX8_appendNumber) ∈ BW := bw (tb2 169 (by decide +kernel)) (by decide +kernel)
theorem s_1_0 : (Cond.selects RX8 yX8_appendNumber yX8_appendNumber) ∈ BW := bw (sl1 (y := yX8_appendNumber) (n := 3) 0 (by decide +kernel)) (by decide +kernel)
theorem vX8_23 : LV RX8 23 RX8 yX8_appendNumber cX8_appendNumber 4 none 1 := ⟨m_407, m_409, s_1_0, m_2, m_410, rfl, by decide, by decide, by decide +kernel⟩
theorem dX8_append_45 : decode cX8_append 45 = .ok (.invokevirtual 23, 3) := DX8_append _ _ _ rfl
theorem dX8_append_48 : decode cX8_append 48 = .ok (.aload_n 0, 1) := DX8_append _ _ _ rfl
theorem dX8_append_49 : decode cX8_append 49 = .ok (.iload_n 2, 1) := DX8_append _ _ _ rfl
theorem dX8_append_50 : decode cX8_append 50 = .ok (.invokevirtual 23, 3) := DX8_append _ _ _ rfl
theorem dX8_append_53 : decode cX8_append 53 = .ok (.aload_n 0, 1) := DX8_append _ _ _ rfl
theorem dX8_append_54 : decode cX8_append 54 = .ok (.iload_n 3, 1) := DX8_append _ _ _ rfl
theorem dX8_append_55 : decode cX8_append 55 = .ok (.invokevirtual 23, 3) := DX8_append _ _ _ rfl
theorem dX8_append_58 : decode cX8_append 58 = .ok (.aload_n 0, 1) := DX8_append _ _ _ rfl
theorem dX8_append_59 : decode cX8_append 59 = .ok (.iload 4, 2) := DX8_append _ _ _ rfl
theorem dX8_append_61 : decode cX8_append 61 = .ok (.invokevirtual 23, 3) := DX8_append _ _ _ rfl
theorem dX8_append_64 : decode cX8_append 64 = .ok (.aload_n 0, 1) := DX8_append _ _ _ rfl
theorem dX8_append_65 : decode cX8_append 65 = .ok (.iload 5, 2) := DX8_append _ _ _ rfl
theorem dX8_append_67 : decode cX8_append 67 = .ok (.invokevirtual 23, 3) := DX8_append _ _ _ rfl
theorem dX8_append_70 : decode cX8_append 70 = .ok (.aload_n 0, 1) := DX8_append _ _ _ rfl
theorem dX8_append_71 : decode cX8_append 71 = .ok (.getfield 19, 3) := DX8_append _ _ _ rfl
theorem dX8_append_74 : decode cX8_append 74 = .ok (.ireturn, 1) := DX8_append _ _ _ rfl
theorem m_399 : (Cond.code yX11_feed prog_1_method_2_code 6 (Option.some FieldType.int)) ∈ BW := bw (tb2 159 rfl) (by decide +kernel)
theorem dX11_feed_0 : decode cX11_feed 0 = .ok (.aload_n 0, 1) := DX11_feed _ _ _ rfl
theorem dX11_feed_1 : decode cX11_feed 1 = .ok (.getfield 10, 3) := DX11_feed _ _ _ rfl
theorem dX11_feed_4 : decode cX11_feed 4 = .ok (.iload_n 1, 1) := DX11_feed _ _ _ rfl
theorem dX11_feed_5 : decode cX11_feed 5 = .ok (.iload_n 2, 1) := DX11_feed _ _ _ rfl
theorem dX11_feed_6 : decode cX11_feed 6 = .ok (.iload_n 3, 1) := DX11_feed _ _ _ rfl
theorem dX11_feed_7 : decode cX11_feed 7 = .ok (.iload 4, 2) := DX11_feed _ _ _ rfl
theorem dX11_feed_9 : decode cX11_feed 9 = .ok (.iload 5, 2) := DX11_feed _ _ _ rfl
theorem m_400 : (Cond.methodLink "NoonValley" 82 yX8_append) ∈ BW := bw (tb2 160 (by decide +kernel)) (by decide +kernel)
theorem m_401 : (Cond.instanceMethod yX8_append) ∈ BW := bw (tb2 161 (by decide +kernel)) (by decide +kernel)
theorem m_402 : (Cond.selects "NoonValley$Tape" yX8_append yX8_append) ∈ BW := bw (tb2 162 (by decide +kernel)) (by decide +kernel)
theorem vX11_82 : LV RX11 82 RX8 yX8_append cX8_append 7 (some .int) 5 := ⟨m_400, m_401, m_402, m_2, m_403, rfl, by decide, by decide, by decide +kernel⟩
theorem dX11_feed_11 : decode cX11_feed 11 = .ok (.invokevirtual 82, 3) := DX11_feed _ _ _ rfl
theorem dX11_feed_14 : decode cX11_feed 14 = .ok (.ireturn, 1) := DX11_feed _ _ _ rfl
theorem m_418 : (Cond.code yX8_cut prog_10_method_3_code 2 (Option.some FieldType.boolean)) ∈ BW := bw (tb2 178 rfl) (by decide +kernel)
theorem dX8_cut_0 : decode cX8_cut 0 = .ok (.iload_n 1, 1) := DX8_cut _ _ _ rfl
theorem dX8_cut_1 : decode cX8_cut 1 = .ok (.ifCond .lt 11, 3) := DX8_cut _ _ _ rfl
theorem dX8_cut_12 : decode cX8_cut 12 = .ok (.iconst 0, 1) := DX8_cut _ _ _ rfl
theorem dX8_cut_13 : decode cX8_cut 13 = .ok (.ireturn, 1) := DX8_cut _ _ _ rfl
theorem dX8_cut_4 : decode cX8_cut 4 = .ok (.iload_n 1, 1) := DX8_cut _ _ _ rfl
theorem dX8_cut_5 : decode cX8_cut 5 = .ok (.aload_n 0, 1) := DX8_cut _ _ _ rfl
theorem dX8_cut_6 : decode cX8_cut 6 = .ok (.getfield 19, 3) := DX8_cut _ _ _ rfl
theorem dX8_cut_9 : decode cX8_cut 9 = .ok (.if_icmp .le 5, 3) := DX8_cut _ _ _ rfl
theorem dX8_cut_14 : decode cX8_cut 14 = .ok (.aload_n 0, 1) := DX8_cut _ _ _ rfl
theorem dX8_cut_15 : decode cX8_cut 15 = .ok (.iload_n 1, 1) := DX8_cut _ _ _ rfl
theorem dX8_cut_16 : decode cX8_cut 16 = .ok (.putfield 19, 3) := DX8_cut _ _ _ rfl
theorem dX8_cut_19 : decode cX8_cut 19 = .ok (.iconst 1, 1) := DX8_cut _ _ _ rfl
theorem dX8_cut_20 : decode cX8_cut 20 = .ok (.ireturn, 1) := DX8_cut _ _ _ rfl
theorem m_414 : (Cond.code yX11_end prog_1_method_3_code 2 (Option.some FieldType.boolean)) ∈ BW := bw (tb2 174 rfl) (by decide +kernel)
theorem dX11_end_0 : decode cX11_end 0 = .ok (.aload_n 0, 1) := DX11_end _ _ _ rfl
theorem dX11_end_1 : decode cX11_end 1 = .ok (.getfield 10, 3) := DX11_end _ _ _ rfl
theorem dX11_end_4 : decode cX11_end 4 = .ok (.iload_n 1, 1) := DX11_end _ _ _ rfl
theorem m_415 : (Cond.methodLink "NoonValley" 86 yX8_cut) ∈ BW := bw (tb2 175 (by decide +kernel)) (by decide +kernel)
theorem m_416 : (Cond.instanceMethod yX8_cut) ∈ BW := bw (tb2 176 (by decide +kernel)) (by decide +kernel)
theorem m_417 : (Cond.selects "NoonValley$Tape" yX8_cut yX8_cut) ∈ BW := bw (tb2 177 (by decide +kernel)) (by decide +kernel)
theorem vX11_86 : LV RX11 86 RX8 yX8_cut cX8_cut 2 (some .boolean) 1 := ⟨m_415, m_416, m_417, m_2, m_418, rfl, by decide, by decide, by decide +kernel⟩
theorem dX11_end_5 : decode cX11_end 5 = .ok (.invokevirtual 86, 3) := DX11_end _ _ _ rfl
theorem dX11_end_8 : decode cX11_end 8 = .ok (.ireturn, 1) := DX11_end _ _ _ rfl
theorem m_1435 : (Cond.code yX12_end prog_14_method_7_code 2 (Option.some FieldType.boolean)) ∈ BW := bw (tb6 235 rfl) (by decide +kernel)
theorem dX12_end_0 : decode cX12_end 0 = .ok (.aload_n 0, 1) := DX12_end _ _ _ rfl
theorem dX12_end_1 : decode cX12_end 1 = .ok (.iconst 0, 1) := DX12_end _ _ _ rfl
theorem dX12_end_2 : decode cX12_end 2 = .ok (.putfield 160, 3) := DX12_end _ _ _ rfl
theorem dX12_end_5 : decode cX12_end 5 = .ok (.iload_n 1, 1) := DX12_end _ _ _ rfl
theorem dX12_end_6 : decode cX12_end 6 = .ok (.ifCond .lt 11, 3) := DX12_end _ _ _ rfl
theorem dX12_end_17 : decode cX12_end 17 = .ok (.iconst 0, 1) := DX12_end _ _ _ rfl
theorem dX12_end_18 : decode cX12_end 18 = .ok (.ireturn, 1) := DX12_end _ _ _ rfl
theorem dX12_end_9 : decode cX12_end 9 = .ok (.iload_n 1, 1) := DX12_end _ _ _ rfl
theorem dX12_end_10 : decode cX12_end 10 = .ok (.aload_n 0, 1) := DX12_end _ _ _ rfl
theorem m_1233 : (Cond.fieldLink "NoonValleyModel" 163 "NoonValleyModel" "length" "I") ∈ BW := bw (tb6 33 (by decide +kernel)) (by decide +kernel)
theorem dX12_end_11 : decode cX12_end 11 = .ok (.getfield 163, 3) := DX12_end _ _ _ rfl
theorem dX12_end_14 : decode cX12_end 14 = .ok (.if_icmp .le 5, 3) := DX12_end _ _ _ rfl
theorem dX12_end_19 : decode cX12_end 19 = .ok (.aload_n 0, 1) := DX12_end _ _ _ rfl
theorem dX12_end_20 : decode cX12_end 20 = .ok (.iload_n 1, 1) := DX12_end _ _ _ rfl
theorem dX12_end_21 : decode cX12_end 21 = .ok (.putfield 163, 3) := DX12_end _ _ _ rfl
theorem dX12_end_24 : decode cX12_end 24 = .ok (.iconst 1, 1) := DX12_end _ _ _ rfl
theorem dX12_end_25 : decode cX12_end 25 = .ok (.ireturn, 1) := DX12_end _ _ _ rfl
theorem m_1431 : (Cond.code yX12_put prog_14_method_5_code 3 (Option.none : Option Jvm.ClassFile.FieldType)) ∈ BW := bw (tb6 231 rfl) (by decide +kernel)
theorem dX12_put_0 : decode cX12_put 0 = .ok (.bipush 24, 2) := DX12_put _ _ _ rfl
theorem dX12_put_2 : decode cX12_put 2 = .ok (.istore_n 2, 1) := DX12_put _ _ _ rfl
theorem dX12_put_3 : decode cX12_put 3 = .ok (.iload_n 2, 1) := DX12_put _ _ _ rfl
theorem dX12_put_4 : decode cX12_put 4 = .ok (.ifCond .lt 45, 3) := DX12_put _ _ _ rfl
theorem dX12_put_49 : decode cX12_put 49 = .ok (.return_, 1) := DX12_put _ _ _ rfl
theorem dX12_put_7 : decode cX12_put 7 = .ok (.iload_n 1, 1) := DX12_put _ _ _ rfl
theorem dX12_put_8 : decode cX12_put 8 = .ok (.iload_n 2, 1) := DX12_put _ _ _ rfl
theorem dX12_put_9 : decode cX12_put 9 = .ok (.ishr, 1) := DX12_put _ _ _ rfl
theorem dX12_put_10 : decode cX12_put 10 = .ok (.sipush 255, 3) := DX12_put _ _ _ rfl
theorem dX12_put_13 : decode cX12_put 13 = .ok (.iand, 1) := DX12_put _ _ _ rfl
theorem dX12_put_14 : decode cX12_put 14 = .ok (.ifCond .ne 6, 3) := DX12_put _ _ _ rfl
theorem dX12_put_20 : decode cX12_put 20 = .ok (.aload_n 0, 1) := DX12_put _ _ _ rfl
theorem dX12_put_21 : decode cX12_put 21 = .ok (.getfield 9, 3) := DX12_put _ _ _ rfl
theorem dX12_put_24 : decode cX12_put 24 = .ok (.aload_n 0, 1) := DX12_put _ _ _ rfl
theorem dX12_put_25 : decode cX12_put 25 = .ok (.getfield 163, 3) := DX12_put _ _ _ rfl
theorem dX12_put_28 : decode cX12_put 28 = .ok (.iload_n 1, 1) := DX12_put _ _ _ rfl
theorem dX12_put_29 : decode cX12_put 29 = .ok (.iload_n 2, 1) := DX12_put _ _ _ rfl
theorem dX12_put_30 : decode cX12_put 30 = .ok (.ishr, 1) := DX12_put _ _ _ rfl
theorem dX12_put_31 : decode cX12_put 31 = .ok (.i2b, 1) := DX12_put _ _ _ rfl
theorem dX12_put_32 : decode cX12_put 32 = .ok (.bastore, 1) := DX12_put _ _ _ rfl
theorem dX12_put_33 : decode cX12_put 33 = .ok (.aload_n 0, 1) := DX12_put _ _ _ rfl
theorem dX12_put_34 : decode cX12_put 34 = .ok (.dup, 1) := DX12_put _ _ _ rfl
theorem dX12_put_35 : decode cX12_put 35 = .ok (.getfield 163, 3) := DX12_put _ _ _ rfl
theorem dX12_put_38 : decode cX12_put 38 = .ok (.iconst 1, 1) := DX12_put _ _ _ rfl
theorem dX12_put_39 : decode cX12_put 39 = .ok (.iadd, 1) := DX12_put _ _ _ rfl
theorem dX12_put_40 : decode cX12_put 40 = .ok (.putfield 163, 3) := DX12_put _ _ _ rfl
theorem dX12_put_43 : decode cX12_put 43 = .ok (.iinc 2 (-8), 3) := DX12_put _ _ _ rfl
theorem dX12_put_46 : decode cX12_put 46 = .ok (.goto (-43), 3) := DX12_put _ _ _ rfl
theorem dX12_put_17 : decode cX12_put 17 = .ok (.goto 26, 3) := DX12_put _ _ _ rfl
theorem m_1424 : (Cond.code yX12_feed prog_14_method_6_code 6 (Option.some FieldType.int)) ∈ BW := bw (tb6 224 rfl) (by decide +kernel)
theorem dX12_feed_0 : decode cX12_feed 0 = .ok (.aload_n 0, 1) := DX12_feed _ _ _ rfl
theorem dX12_feed_1 : decode cX12_feed 1 = .ok (.iconst 0, 1) := DX12_feed _ _ _ rfl
theorem dX12_feed_2 : decode cX12_feed 2 = .ok (.putfield 160, 3) := DX12_feed _ _ _ rfl
theorem dX12_feed_5 : decode cX12_feed 5 = .ok (.aload_n 0, 1) := DX12_feed _ _ _ rfl
theorem dX12_feed_6 : decode cX12_feed 6 = .ok (.getfield 163, 3) := DX12_feed _ _ _ rfl
theorem dX12_feed_9 : decode cX12_feed 9 = .ok (.iload_n 1, 1) := DX12_feed _ _ _ rfl
theorem m_1425 : (Cond.methodLink "NoonValleyModel" 166 yX12_bytesIn) ∈ BW := bw (tb6 225 (by decide +kernel)) (by decide +kernel)
theorem m_1426 : (Cond.static yX12_bytesIn) ∈ BW := bw (tb6 226 (by decide +kernel)) (by decide +kernel)
theorem vX12_166 : LST RX12 166 yX12_bytesIn cX12_bytesIn 3 (some .int) 1 := ⟨m_1425, m_1426, m_12, m_1427, by decide, by decide, by decide +kernel⟩
theorem dX12_feed_10 : decode cX12_feed 10 = .ok (.invokestatic 166, 3) := DX12_feed _ _ _ rfl
theorem dX12_feed_13 : decode cX12_feed 13 = .ok (.iadd, 1) := DX12_feed _ _ _ rfl
theorem dX12_feed_14 : decode cX12_feed 14 = .ok (.iload_n 2, 1) := DX12_feed _ _ _ rfl
theorem dX12_feed_15 : decode cX12_feed 15 = .ok (.invokestatic 166, 3) := DX12_feed _ _ _ rfl
theorem dX12_feed_18 : decode cX12_feed 18 = .ok (.iadd, 1) := DX12_feed _ _ _ rfl
theorem dX12_feed_19 : decode cX12_feed 19 = .ok (.iload_n 3, 1) := DX12_feed _ _ _ rfl
theorem dX12_feed_20 : decode cX12_feed 20 = .ok (.invokestatic 166, 3) := DX12_feed _ _ _ rfl
theorem dX12_feed_23 : decode cX12_feed 23 = .ok (.iadd, 1) := DX12_feed _ _ _ rfl
theorem dX12_feed_24 : decode cX12_feed 24 = .ok (.iload 4, 2) := DX12_feed _ _ _ rfl
theorem dX12_feed_26 : decode cX12_feed 26 = .ok (.invokestatic 166, 3) := DX12_feed _ _ _ rfl
theorem dX12_feed_29 : decode cX12_feed 29 = .ok (.iadd, 1) := DX12_feed _ _ _ rfl
theorem dX12_feed_30 : decode cX12_feed 30 = .ok (.iload 5, 2) := DX12_feed _ _ _ rfl
theorem dX12_feed_32 : decode cX12_feed 32 = .ok (.invokestatic 166, 3) := DX12_feed _ _ _ rfl
theorem dX12_feed_35 : decode cX12_feed 35 = .ok (.iadd, 1) := DX12_feed _ _ _ rfl
theorem dX12_feed_36 : decode cX12_feed 36 = .ok (.sipush 400, 3) := DX12_feed _ _ _ rfl
theorem dX12_feed_39 : decode cX12_feed 39 = .ok (.if_icmp .le 5, 3) := DX12_feed _ _ _ rfl
theorem dX12_feed_44 : decode cX12_feed 44 = .ok (.aload_n 0, 1) := DX12_feed _ _ _ rfl
theorem dX12_feed_45 : decode cX12_feed 45 = .ok (.iload_n 1, 1) := DX12_feed _ _ _ rfl
theorem m_1428 : (Cond.methodLink "NoonValleyModel" 170 yX12_put) ∈ BW := bw (tb6 228 (by decide +kernel)) (by decide +kernel)
theorem m_1430 : (Cond.instanceMethod yX12_put) ∈ BW := bw (tb6 230 (by decide +kernel)) (by decide +kernel)
theorem s_4_3 : (Cond.selects RX12 yX12_put yX12_put) ∈ BW := bw (sl4 (y := yX12_put) (n := 64) 3 (by decide +kernel)) (by decide +kernel)
theorem vX12_170 : LV RX12 170 RX12 yX12_put cX12_put 3 none 1 := ⟨m_1428, m_1430, s_4_3, m_12, m_1431, rfl, by decide, by decide, by decide +kernel⟩
theorem dX12_feed_46 : decode cX12_feed 46 = .ok (.invokevirtual 170, 3) := DX12_feed _ _ _ rfl
theorem dX12_feed_49 : decode cX12_feed 49 = .ok (.aload_n 0, 1) := DX12_feed _ _ _ rfl
theorem dX12_feed_50 : decode cX12_feed 50 = .ok (.iload_n 2, 1) := DX12_feed _ _ _ rfl
theorem dX12_feed_51 : decode cX12_feed 51 = .ok (.invokevirtual 170, 3) := DX12_feed _ _ _ rfl
theorem dX12_feed_54 : decode cX12_feed 54 = .ok (.aload_n 0, 1) := DX12_feed _ _ _ rfl
theorem dX12_feed_55 : decode cX12_feed 55 = .ok (.iload_n 3, 1) := DX12_feed _ _ _ rfl
theorem dX12_feed_56 : decode cX12_feed 56 = .ok (.invokevirtual 170, 3) := DX12_feed _ _ _ rfl
theorem dX12_feed_59 : decode cX12_feed 59 = .ok (.aload_n 0, 1) := DX12_feed _ _ _ rfl
theorem dX12_feed_60 : decode cX12_feed 60 = .ok (.iload 4, 2) := DX12_feed _ _ _ rfl
theorem dX12_feed_62 : decode cX12_feed 62 = .ok (.invokevirtual 170, 3) := DX12_feed _ _ _ rfl
theorem dX12_feed_65 : decode cX12_feed 65 = .ok (.aload_n 0, 1) := DX12_feed _ _ _ rfl
theorem dX12_feed_66 : decode cX12_feed 66 = .ok (.iload 5, 2) := DX12_feed _ _ _ rfl
theorem dX12_feed_68 : decode cX12_feed 68 = .ok (.invokevirtual 170, 3) := DX12_feed _ _ _ rfl
theorem dX12_feed_71 : decode cX12_feed 71 = .ok (.aload_n 0, 1) := DX12_feed _ _ _ rfl
theorem dX12_feed_72 : decode cX12_feed 72 = .ok (.getfield 163, 3) := DX12_feed _ _ _ rfl
theorem dX12_feed_75 : decode cX12_feed 75 = .ok (.ireturn, 1) := DX12_feed _ _ _ rfl
set_option maxHeartbeats 4000000 in
set_option maxRecDepth 100000 in
theorem C_X8_bytesIn (l : Launch) (g : GG) (v : Int32) : MetI l g yX8_bytesIn cX8_bytesIn 3 (some .int) 0 0 0 [.int v] [] (fun r u => r = nI (cnt v 4) ∧ u = []) := by
  refine MetI.of (own := RX8) rfl (by decide) (Nat.le_of_ble_eq_true rfl) ?_
  intro p e s m below meth c A ls args Q hQ X hr hin hW hl
  have hx := X.1
  have hb := X.2.1
  have hl : lv_has ls 3 [(0, .int v)] := hl
  refine lv_iconst (v := 0) (pc := 0) hx hb dX8_bytesIn_0 (by decide) ?_
  refine lv_istore_n (lv' := [(1, .int 0), (0, .int v)]) (pc := 1) hx hb dX8_bytesIn_1 rfl hl (by decide) rfl (fun ls hl => ?_)
  refine lv_bipush (v := 24) (pc := 2) hx hb dX8_bytesIn_2 (by decide) ?_
  refine lv_istore_n (lv' := [(2, .int 24), (1, .int 0), (0, .int v)]) (pc := 4) hx hb dX8_bytesIn_4 rfl hl (by decide) rfl (fun ls hl => ?_)
  have loop1 : ∀ (n : Nat) (j : Nat) (b : Int32), (5 ≤ n + j) → (j < 5) → (b = nI (cnt v j)) → ∀ (H : Heap) (locs : List Loc) (ls : Array Slot), WD g A s H locs [] → lv_has ls 3 [(0, .int v), (1, .int b), (2, .int (sh j))] → W p l e (RM 0 0 0) s m args below meth c H locs 0 0 Q (F0 m 5 ls []) := by
    intro n
    induction n with
    | zero =>
      intro j b hm hj hbj
      exact absurd hm (by omega)
    | succ n ih1 =>
      intro j b hm hj hbj H locs ls hW hl
      refine lv_iload_n (pc := 5) hx hb dX8_bytesIn_5 rfl (lv_at hl 2 rfl) ?_
      refine lv_if_lt (tgt := 28) (pc := 6) hx hb dX8_bytesIn_6 rfl (fun c1 => ?_) (fun c1 => ?_)
      · have hex := c1
        refine lv_iload_n (pc := 28) hx hb dX8_bytesIn_28 rfl (lv_at hl 1 rfl) ?_
        exact e_i X hQ hr hW (u := []) [] rfl rfl (⟨by rw [hbj, (sh_neg j hj).mp hex], rfl⟩) ⟨Nat.le_of_ble_eq_true rfl, Nat.le_of_ble_eq_true rfl⟩ dX8_bytesIn_29
      · have h4 : j < 4 := by have h9 := (not_congr (sh_neg j hj)).mp c1; omega
        refine lv_iload_n (pc := 9) hx hb dX8_bytesIn_9 rfl (lv_at hl 0 rfl) ?_
        refine lv_iload_n (pc := 10) hx hb dX8_bytesIn_10 rfl (lv_at hl 2 rfl) ?_
        refine lv_iushr (pc := 11) hx hb dX8_bytesIn_11 rfl ?_
        refine lv_topi (fun v2 ev2 => ?_)
        obtain rfl : v2 = (v.toUInt32 >>> ((sh j).toUInt32 &&& Int32.toUInt32 31)).toInt32 := ev2.trans (rfl)
        refine lv_sipush (v := 255) (pc := 12) hx hb dX8_bytesIn_12 (by decide) ?_
        refine lv_iand (pc := 15) hx hb dX8_bytesIn_15 ?_
        refine lv_topi (fun v3 ev3 => ?_)
        obtain rfl : v3 = byx v j := ev3.trans (rfl)
        refine lv_if_eq (tgt := 22) (pc := 16) hx hb dX8_bytesIn_16 rfl (fun c4 => ?_) (fun c4 => ?_)
        · have hbn : b = nI (cnt v (j + 1)) := by rw [cnt_s0 c4, hbj]
          refine lv_iinc (v := sh (j + 1)) (lv' := [(2, .int (sh (j + 1))), (0, .int v), (1, .int b)]) (pc := 22) hx hb dX8_bytesIn_22 hl (k := 2) rfl (sh_step j h4) (by decide) rfl (fun ls hl => ?_)
          refine lv_goto (tgt := 5) (pc := 25) hx hb dX8_bytesIn_25 rfl ?_
          exact ih1 (j + 1) b (by omega) (by omega) hbn _ _ _ hW (lv_sub hl [1, 2, 0] rfl)
        · have hz0 := c4
          refine lv_iinc (v := nI (cnt v j + 1)) (lv' := [(1, .int (nI (cnt v j + 1))), (0, .int v), (2, .int (sh j))]) (pc := 19) hx hb dX8_bytesIn_19 hl (k := 1) rfl (by rw [hbj]; exact nI_1 _) (by decide) rfl (fun ls hl => ?_)
          have hbn : nI (cnt v j + 1) = nI (cnt v (j + 1)) := by rw [cnt_s1 hz0]
          refine lv_iinc (v := sh (j + 1)) (lv' := [(2, .int (sh (j + 1))), (1, .int (nI (cnt v j + 1))), (0, .int v)]) (pc := 22) hx hb dX8_bytesIn_22 hl (k := 2) rfl (sh_step j h4) (by decide) rfl (fun ls hl => ?_)
          refine lv_goto (tgt := 5) (pc := 25) hx hb dX8_bytesIn_25 rfl ?_
          exact ih1 (j + 1) (nI (cnt v j + 1)) (by omega) (by omega) hbn _ _ _ hW (lv_sub hl [2, 1, 0] rfl)
  exact loop1 5 0 0 (by decide) (by decide) rfl _ _ _ hW (lv_sub hl [2, 1, 0] rfl)

set_option maxHeartbeats 4000000 in
set_option maxRecDepth 100000 in
theorem C_X12_bytesIn (l : Launch) (g : GG) (v : Int32) : MetI l g yX12_bytesIn cX12_bytesIn 3 (some .int) 0 0 0 [.int v] [] (fun r u => r = nI (cnt v 4) ∧ u = []) := by
  refine MetI.of (own := RX12) rfl (by decide) (Nat.le_of_ble_eq_true rfl) ?_
  intro p e s m below meth c A ls args Q hQ X hr hin hW hl
  have hx := X.1
  have hb := X.2.1
  have hl : lv_has ls 3 [(0, .int v)] := hl
  refine lv_iconst (v := 0) (pc := 0) hx hb dX12_bytesIn_0 (by decide) ?_
  refine lv_istore_n (lv' := [(1, .int 0), (0, .int v)]) (pc := 1) hx hb dX12_bytesIn_1 rfl hl (by decide) rfl (fun ls hl => ?_)
  refine lv_bipush (v := 24) (pc := 2) hx hb dX12_bytesIn_2 (by decide) ?_
  refine lv_istore_n (lv' := [(2, .int 24), (1, .int 0), (0, .int v)]) (pc := 4) hx hb dX12_bytesIn_4 rfl hl (by decide) rfl (fun ls hl => ?_)
  have loop1 : ∀ (n : Nat) (j : Nat) (b : Int32), (5 ≤ n + j) → (j < 5) → (b = nI (cnt v j)) → ∀ (H : Heap) (locs : List Loc) (ls : Array Slot), WD g A s H locs [] → lv_has ls 3 [(0, .int v), (1, .int b), (2, .int (sh j))] → W p l e (RM 0 0 0) s m args below meth c H locs 0 0 Q (F0 m 5 ls []) := by
    intro n
    induction n with
    | zero =>
      intro j b hm hj hbj
      exact absurd hm (by omega)
    | succ n ih1 =>
      intro j b hm hj hbj H locs ls hW hl
      refine lv_iload_n (pc := 5) hx hb dX12_bytesIn_5 rfl (lv_at hl 2 rfl) ?_
      refine lv_if_lt (tgt := 33) (pc := 6) hx hb dX12_bytesIn_6 rfl (fun c1 => ?_) (fun c1 => ?_)
      · have hex := c1
        refine lv_iload_n (pc := 33) hx hb dX12_bytesIn_33 rfl (lv_at hl 1 rfl) ?_
        exact e_i X hQ hr hW (u := []) [] rfl rfl (⟨by rw [hbj, (sh_neg j hj).mp hex], rfl⟩) ⟨Nat.le_of_ble_eq_true rfl, Nat.le_of_ble_eq_true rfl⟩ dX12_bytesIn_34
      · have h4 : j < 4 := by have h9 := (not_congr (sh_neg j hj)).mp c1; omega
        refine lv_iload_n (pc := 9) hx hb dX12_bytesIn_9 rfl (lv_at hl 1 rfl) ?_
        refine lv_iload_n (pc := 10) hx hb dX12_bytesIn_10 rfl (lv_at hl 0 rfl) ?_
        refine lv_iload_n (pc := 11) hx hb dX12_bytesIn_11 rfl (lv_at hl 2 rfl) ?_
        refine lv_ishr (pc := 12) hx hb dX12_bytesIn_12 ?_
        refine lv_topi (fun v2 ev2 => ?_)
        obtain rfl : v2 = v >>> (sh j &&& 31) := ev2.trans (rfl)
        refine lv_sipush (v := 255) (pc := 13) hx hb dX12_bytesIn_13 (by decide) ?_
        refine lv_iand (pc := 16) hx hb dX12_bytesIn_16 ?_
        refine lv_topi (fun v3 ev3 => ?_)
        obtain rfl : v3 = byx v j := ev3.trans (byz_eq v j h4)
        refine lv_if_eq (tgt := 24) (pc := 17) hx hb dX12_bytesIn_17 rfl (fun c4 => ?_) (fun c4 => ?_)
        · refine lv_iconst (v := 0) (pc := 24) hx hb dX12_bytesIn_24 (by decide) ?_
          refine lv_iadd (pc := 25) hx hb dX12_bytesIn_25 ?_
          refine lv_topi (fun v5 ev5 => ?_)
          obtain rfl : v5 = nI (cnt v (j + 1)) := ev5.trans (by rw [hbj, cnt_s0 c4]; exact Int32.add_zero _)
          refine lv_istore_n (lv' := [(1, .int (nI (cnt v (j + 1)))), (0, .int v), (2, .int (sh j))]) (pc := 26) hx hb dX12_bytesIn_26 rfl hl (by decide) rfl (fun ls hl => ?_)
          refine lv_iinc (v := sh (j + 1)) (lv' := [(2, .int (sh (j + 1))), (1, .int (nI (cnt v (j + 1)))), (0, .int v)]) (pc := 27) hx hb dX12_bytesIn_27 hl (k := 2) rfl (sh_step j h4) (by decide) rfl (fun ls hl => ?_)
          refine lv_goto (tgt := 5) (pc := 30) hx hb dX12_bytesIn_30 rfl ?_
          exact ih1 (j + 1) (nI (cnt v (j + 1))) (by omega) (by omega) rfl _ _ _ hW (lv_sub hl [2, 1, 0] rfl)
        · refine lv_iconst (v := 1) (pc := 20) hx hb dX12_bytesIn_20 (by decide) ?_
          refine lv_goto (tgt := 25) (pc := 21) hx hb dX12_bytesIn_21 rfl ?_
          refine lv_iadd (pc := 25) hx hb dX12_bytesIn_25 ?_
          refine lv_topi (fun v6 ev6 => ?_)
          obtain rfl : v6 = nI (cnt v (j + 1)) := ev6.trans (by rw [hbj, cnt_s1 c4]; exact nI_1 _)
          refine lv_istore_n (lv' := [(1, .int (nI (cnt v (j + 1)))), (0, .int v), (2, .int (sh j))]) (pc := 26) hx hb dX12_bytesIn_26 rfl hl (by decide) rfl (fun ls hl => ?_)
          refine lv_iinc (v := sh (j + 1)) (lv' := [(2, .int (sh (j + 1))), (1, .int (nI (cnt v (j + 1)))), (0, .int v)]) (pc := 27) hx hb dX12_bytesIn_27 hl (k := 2) rfl (sh_step j h4) (by decide) rfl (fun ls hl => ?_)
          refine lv_goto (tgt := 5) (pc := 30) hx hb dX12_bytesIn_30 rfl ?_
          exact ih1 (j + 1) (nI (cnt v (j + 1))) (by omega) (by omega) rfl _ _ _ hW (lv_sub hl [2, 1, 0] rfl)
  exact loop1 5 0 0 (by decide) (by decide) rfl _ _ _ hW (lv_sub hl [2, 1, 0] rfl)

theorem m_396 : (Cond.methodLink "NoonValleyLaw" 19 yX11_feed) ∈ BW := bw (tb2 156 rfl) (by decide +kernel)
theorem m_397 : (Cond.instanceMethod yX11_feed) ∈ BW := bw (tb2 157 rfl) (by decide +kernel)
theorem m_398 : (Cond.selects "NoonValley" yX11_feed yX11_feed) ∈ BW := bw (tb2 158 rfl) (by decide +kernel)
theorem vL_19 : LV RL 19 RX11 yX11_feed cX11_feed 6 (some .int) 5 := ⟨m_396, m_397, m_398, m_1, m_399, rfl, by decide, by decide, by decide +kernel⟩
theorem m_1425 : (Cond.methodLink "NoonValleyLaw" 23 yX12_feed) ∈ BW := bw (tb6 225 rfl) (by decide +kernel)
theorem m_1426 : (Cond.instanceMethod yX12_feed) ∈ BW := bw (tb6 226 rfl) (by decide +kernel)
theorem m_1427 : (Cond.selects "NoonValleyModel" yX12_feed yX12_feed) ∈ BW := bw (tb6 227 rfl) (by decide +kernel)
theorem vL_23 : LV RL 23 RX12 yX12_feed cX12_feed 6 (some .int) 5 := ⟨m_1425, m_1426, m_1427, m_12, m_1428, rfl, by decide, by decide, by decide +kernel⟩
theorem m_411 : (Cond.methodLink "NoonValleyLaw" 24 yX11_end) ∈ BW := bw (tb2 171 rfl) (by decide +kernel)
theorem m_412 : (Cond.instanceMethod yX11_end) ∈ BW := bw (tb2 172 rfl) (by decide +kernel)
theorem m_413 : (Cond.selects "NoonValley" yX11_end yX11_end) ∈ BW := bw (tb2 173 rfl) (by decide +kernel)
theorem vL_24 : LV RL 24 RX11 yX11_end cX11_end 2 (some .boolean) 1 := ⟨m_411, m_412, m_413, m_1, m_414, rfl, by decide, by decide, by decide +kernel⟩
theorem m_1436 : (Cond.methodLink "NoonValleyLaw" 28 yX12_end) ∈ BW := bw (tb6 236 rfl) (by decide +kernel)
theorem m_1437 : (Cond.instanceMethod yX12_end) ∈ BW := bw (tb6 237 rfl) (by decide +kernel)
theorem m_1438 : (Cond.selects "NoonValleyModel" yX12_end yX12_end) ∈ BW := bw (tb6 238 rfl) (by decide +kernel)
theorem vL_28 : LV RL 28 RX12 yX12_end cX12_end 2 (some .boolean) 1 := ⟨m_1436, m_1437, m_1438, m_12, m_1439, rfl, by decide, by decide, by decide +kernel⟩
theorem m_419 : (Cond.methodLink "NoonValleyLaw" 29 yX11_fault) ∈ BW := bw (tb2 179 rfl) (by decide +kernel)
theorem m_420 : (Cond.instanceMethod yX11_fault) ∈ BW := bw (tb2 180 rfl) (by decide +kernel)
theorem m_421 : (Cond.selects "NoonValley" yX11_fault yX11_fault) ∈ BW := bw (tb2 181 rfl) (by decide +kernel)
theorem vL_29 : LV RL 29 RX11 yX11_fault cX11_fault 1 (some .int) 0 := ⟨m_419, m_420, m_421, m_1, m_422, rfl, by decide, by decide, by decide +kernel⟩
theorem m_1440 : (Cond.methodLink "NoonValleyLaw" 33 yX12_fault) ∈ BW := bw (tb7 0 rfl) (by decide +kernel)
theorem m_1441 : (Cond.instanceMethod yX12_fault) ∈ BW := bw (tb7 1 rfl) (by decide +kernel)
theorem m_1442 : (Cond.selects "NoonValleyModel" yX12_fault yX12_fault) ∈ BW := bw (tb7 2 rfl) (by decide +kernel)
theorem vL_33 : LV RL 33 RX12 yX12_fault cX12_fault 2 (some .int) 0 := ⟨m_1440, m_1441, m_1442, m_12, m_1443, rfl, by decide, by decide, by decide +kernel⟩
theorem m_475 : (Cond.methodLink "NoonValleyLaw" 34 yX11_valley) ∈ BW := bw (tb2 235 rfl) (by decide +kernel)
theorem m_476 : (Cond.instanceMethod yX11_valley) ∈ BW := bw (tb2 236 rfl) (by decide +kernel)
theorem m_477 : (Cond.selects "NoonValley" yX11_valley yX11_valley) ∈ BW := bw (tb2 237 rfl) (by decide +kernel)
theorem vL_34 : LV RL 34 RX11 yX11_valley cX11_valley 1 (some .int) 0 := ⟨m_475, m_476, m_477, m_1, m_478, rfl, by decide, by decide, by decide +kernel⟩
theorem m_1483 : (Cond.methodLink "NoonValleyLaw" 37 yX12_valley) ∈ BW := bw (tb7 43 rfl) (by decide +kernel)
theorem m_1484 : (Cond.instanceMethod yX12_valley) ∈ BW := bw (tb7 44 rfl) (by decide +kernel)
theorem m_1485 : (Cond.selects "NoonValleyModel" yX12_valley yX12_valley) ∈ BW := bw (tb7 45 rfl) (by decide +kernel)
theorem vL_37 : LV RL 37 RX12 yX12_valley cX12_valley 2 (some .int) 0 := ⟨m_1483, m_1484, m_1485, m_12, m_1486, rfl, by decide, by decide, by decide +kernel⟩
theorem m_517 : (Cond.methodLink "NoonValleyLaw" 38 yX11_told) ∈ BW := bw (tb3 37 rfl) (by decide +kernel)
theorem m_518 : (Cond.instanceMethod yX11_told) ∈ BW := bw (tb3 38 rfl) (by decide +kernel)
theorem m_519 : (Cond.selects "NoonValley" yX11_told yX11_told) ∈ BW := bw (tb3 39 rfl) (by decide +kernel)
theorem vL_38 : LV RL 38 RX11 yX11_told cX11_told 5 (some .int) 2 := ⟨m_517, m_518, m_519, m_1, m_520, rfl, by decide, by decide, by decide +kernel⟩
theorem m_1487 : (Cond.methodLink "NoonValleyLaw" 42 yX12_told) ∈ BW := bw (tb7 47 rfl) (by decide +kernel)
theorem m_1488 : (Cond.instanceMethod yX12_told) ∈ BW := bw (tb7 48 rfl) (by decide +kernel)
theorem m_1489 : (Cond.selects "NoonValleyModel" yX12_told yX12_told) ∈ BW := bw (tb7 49 rfl) (by decide +kernel)
theorem vL_42 : LV RL 42 RX12 yX12_told cX12_told 3 (some .int) 2 := ⟨m_1487, m_1488, m_1489, m_12, m_1490, rfl, by decide, by decide, by decide +kernel⟩
theorem m_1153 : (Cond.methodLink "NoonValleyLaw" 43 yL_line) ∈ BW := bw (tb5 193 rfl) (by decide +kernel)
theorem m_1154 : (Cond.static yL_line) ∈ BW := bw (tb5 194 rfl) (by decide +kernel)
theorem m_0 : (Cond.initialized "NoonValleyLaw") ∈ BW := bw (tb1 0 rfl) (by decide +kernel)
theorem m_1495 : (Cond.methodLink "NoonValleyLaw" 48 yX12_line) ∈ BW := bw (tb7 55 rfl) (by decide +kernel)
theorem m_1496 : (Cond.instanceMethod yX12_line) ∈ BW := bw (tb7 56 rfl) (by decide +kernel)
theorem m_1497 : (Cond.selects "NoonValleyModel" yX12_line yX12_line) ∈ BW := bw (tb7 57 rfl) (by decide +kernel)
theorem vL_48 : LV RL 48 RX12 yX12_line cX12_line 5 (some .int) 3 := ⟨m_1495, m_1496, m_1497, m_12, m_1498, rfl, by decide, by decide, by decide +kernel⟩
theorem m_1421 : (Cond.methodLink "NoonValleyLaw" 49 yX12_thrown) ∈ BW := bw (tb6 221 rfl) (by decide +kernel)
theorem m_1422 : (Cond.instanceMethod yX12_thrown) ∈ BW := bw (tb6 222 rfl) (by decide +kernel)
theorem m_1423 : (Cond.selects "NoonValleyModel" yX12_thrown yX12_thrown) ∈ BW := bw (tb6 223 rfl) (by decide +kernel)
theorem vL_49 : LV RL 49 RX12 yX12_thrown cX12_thrown 1 (some .int) 0 := ⟨m_1421, m_1422, m_1423, m_12, m_1424, rfl, by decide, by decide, by decide +kernel⟩
theorem m_525 : (Cond.methodLink "NoonValleyLaw" 52 yX11_down) ∈ BW := bw (tb3 45 rfl) (by decide +kernel)
theorem m_526 : (Cond.instanceMethod yX11_down) ∈ BW := bw (tb3 46 rfl) (by decide +kernel)
theorem m_527 : (Cond.selects "NoonValley" yX11_down yX11_down) ∈ BW := bw (tb3 47 rfl) (by decide +kernel)
theorem vL_52 : LV RL 52 RX11 yX11_down cX11_down 5 (some .boolean) 3 := ⟨m_525, m_526, m_527, m_1, m_528, rfl, by decide, by decide, by decide +kernel⟩
theorem m_1503 : (Cond.methodLink "NoonValleyLaw" 56 yX12_down) ∈ BW := bw (tb7 63 rfl) (by decide +kernel)
theorem m_1504 : (Cond.instanceMethod yX12_down) ∈ BW := bw (tb7 64 rfl) (by decide +kernel)
theorem m_1505 : (Cond.selects "NoonValleyModel" yX12_down yX12_down) ∈ BW := bw (tb7 65 rfl) (by decide +kernel)
theorem vL_56 : LV RL 56 RX12 yX12_down cX12_down 4 (some .boolean) 3 := ⟨m_1503, m_1504, m_1505, m_12, m_1506, rfl, by decide, by decide, by decide +kernel⟩
theorem m_540 : (Cond.methodLink "NoonValleyLaw" 57 yX11_may) ∈ BW := bw (tb3 60 rfl) (by decide +kernel)
theorem m_541 : (Cond.instanceMethod yX11_may) ∈ BW := bw (tb3 61 rfl) (by decide +kernel)
theorem m_542 : (Cond.selects "NoonValley" yX11_may yX11_may) ∈ BW := bw (tb3 62 rfl) (by decide +kernel)
theorem vL_57 : LV RL 57 RX11 yX11_may cX11_may 6 (some .int) 4 := ⟨m_540, m_541, m_542, m_1, m_543, rfl, by decide, by decide, by decide +kernel⟩
theorem m_1510 : (Cond.methodLink "NoonValleyLaw" 61 yX12_may) ∈ BW := bw (tb7 70 rfl) (by decide +kernel)
theorem m_1511 : (Cond.instanceMethod yX12_may) ∈ BW := bw (tb7 71 rfl) (by decide +kernel)
theorem m_1512 : (Cond.selects "NoonValleyModel" yX12_may yX12_may) ∈ BW := bw (tb7 72 rfl) (by decide +kernel)
theorem vL_61 : LV RL 61 RX12 yX12_may cX12_may 5 (some .int) 4 := ⟨m_1510, m_1511, m_1512, m_12, m_1513, rfl, by decide, by decide, by decide +kernel⟩
theorem m_557 : (Cond.methodLink "NoonValleyLaw" 62 yX11_plan) ∈ BW := bw (tb3 77 rfl) (by decide +kernel)
theorem m_558 : (Cond.instanceMethod yX11_plan) ∈ BW := bw (tb3 78 rfl) (by decide +kernel)
theorem m_559 : (Cond.selects "NoonValley" yX11_plan yX11_plan) ∈ BW := bw (tb3 79 rfl) (by decide +kernel)
theorem vL_62 : LV RL 62 RX11 yX11_plan cX11_plan 3 (some .int) 1 := ⟨m_557, m_558, m_559, m_1, m_560, rfl, by decide, by decide, by decide +kernel⟩
theorem m_1530 : (Cond.methodLink "NoonValleyLaw" 66 yX12_plan) ∈ BW := bw (tb7 90 rfl) (by decide +kernel)
theorem m_1531 : (Cond.instanceMethod yX12_plan) ∈ BW := bw (tb7 91 rfl) (by decide +kernel)
theorem m_1532 : (Cond.selects "NoonValleyModel" yX12_plan yX12_plan) ∈ BW := bw (tb7 92 rfl) (by decide +kernel)
theorem vL_66 : LV RL 66 RX12 yX12_plan cX12_plan 2 (some .int) 1 := ⟨m_1530, m_1531, m_1532, m_12, m_1533, rfl, by decide, by decide, by decide +kernel⟩
theorem m_606 : (Cond.methodLink "NoonValleyLaw" 67 yX11_call) ∈ BW := bw (tb3 126 rfl) (by decide +kernel)
theorem m_607 : (Cond.instanceMethod yX11_call) ∈ BW := bw (tb3 127 rfl) (by decide +kernel)
theorem m_608 : (Cond.selects "NoonValley" yX11_call yX11_call) ∈ BW := bw (tb3 128 rfl) (by decide +kernel)
theorem vL_67 : LV RL 67 RX11 yX11_call cX11_call 8 (some .int) 5 := ⟨m_606, m_607, m_608, m_1, m_609, rfl, by decide, by decide, by decide +kernel⟩
theorem m_1534 : (Cond.methodLink "NoonValleyLaw" 70 yX12_call) ∈ BW := bw (tb7 94 rfl) (by decide +kernel)
theorem m_1535 : (Cond.instanceMethod yX12_call) ∈ BW := bw (tb7 95 rfl) (by decide +kernel)
theorem m_1536 : (Cond.selects "NoonValleyModel" yX12_call yX12_call) ∈ BW := bw (tb7 96 rfl) (by decide +kernel)
theorem vL_70 : LV RL 70 RX12 yX12_call cX12_call 7 (some .int) 5 := ⟨m_1534, m_1535, m_1536, m_12, m_1537, rfl, by decide, by decide, by decide +kernel⟩
theorem m_624 : (Cond.methodLink "NoonValleyLaw" 71 yX11_lawful) ∈ BW := bw (tb3 144 rfl) (by decide +kernel)
theorem m_625 : (Cond.instanceMethod yX11_lawful) ∈ BW := bw (tb3 145 rfl) (by decide +kernel)
theorem m_626 : (Cond.selects "NoonValley" yX11_lawful yX11_lawful) ∈ BW := bw (tb3 146 rfl) (by decide +kernel)
theorem vL_71 : LV RL 71 RX11 yX11_lawful cX11_lawful 4 (some .int) 2 := ⟨m_624, m_625, m_626, m_1, m_627, rfl, by decide, by decide, by decide +kernel⟩
theorem m_1542 : (Cond.methodLink "NoonValleyLaw" 74 yX12_lawful) ∈ BW := bw (tb7 102 rfl) (by decide +kernel)
theorem m_1543 : (Cond.instanceMethod yX12_lawful) ∈ BW := bw (tb7 103 rfl) (by decide +kernel)
theorem m_1544 : (Cond.selects "NoonValleyModel" yX12_lawful yX12_lawful) ∈ BW := bw (tb7 104 rfl) (by decide +kernel)
theorem vL_74 : LV RL 74 RX12 yX12_lawful cX12_lawful 3 (some .int) 2 := ⟨m_1542, m_1543, m_1544, m_12, m_1545, rfl, by decide, by decide, by decide +kernel⟩
theorem m_637 : (Cond.methodLink "NoonValleyLaw" 75 yX11_unlawful) ∈ BW := bw (tb3 157 rfl) (by decide +kernel)
theorem m_638 : (Cond.instanceMethod yX11_unlawful) ∈ BW := bw (tb3 158 rfl) (by decide +kernel)
theorem m_639 : (Cond.selects "NoonValley" yX11_unlawful yX11_unlawful) ∈ BW := bw (tb3 159 rfl) (by decide +kernel)
theorem vL_75 : LV RL 75 RX11 yX11_unlawful cX11_unlawful 4 (some .int) 1 := ⟨m_637, m_638, m_639, m_1, m_640, rfl, by decide, by decide, by decide +kernel⟩
theorem m_1558 : (Cond.methodLink "NoonValleyLaw" 78 yX12_unlawful) ∈ BW := bw (tb7 118 rfl) (by decide +kernel)
theorem m_1559 : (Cond.instanceMethod yX12_unlawful) ∈ BW := bw (tb7 119 rfl) (by decide +kernel)
theorem m_1560 : (Cond.selects "NoonValleyModel" yX12_unlawful yX12_unlawful) ∈ BW := bw (tb7 120 rfl) (by decide +kernel)
theorem vL_78 : LV RL 78 RX12 yX12_unlawful cX12_unlawful 3 (some .int) 1 := ⟨m_1558, m_1559, m_1560, m_12, m_1561, rfl, by decide, by decide, by decide +kernel⟩
theorem m_641 : (Cond.methodLink "NoonValleyLaw" 79 yX11_known) ∈ BW := bw (tb3 161 rfl) (by decide +kernel)
theorem m_642 : (Cond.instanceMethod yX11_known) ∈ BW := bw (tb3 162 rfl) (by decide +kernel)
theorem m_643 : (Cond.selects "NoonValley" yX11_known yX11_known) ∈ BW := bw (tb3 163 rfl) (by decide +kernel)
theorem vL_79 : LV RL 79 RX11 yX11_known cX11_known 5 (some .int) 3 := ⟨m_641, m_642, m_643, m_1, m_644, rfl, by decide, by decide, by decide +kernel⟩
theorem m_1562 : (Cond.methodLink "NoonValleyLaw" 82 yX12_known) ∈ BW := bw (tb7 122 rfl) (by decide +kernel)
theorem m_1563 : (Cond.instanceMethod yX12_known) ∈ BW := bw (tb7 123 rfl) (by decide +kernel)
theorem m_1564 : (Cond.selects "NoonValleyModel" yX12_known yX12_known) ∈ BW := bw (tb7 124 rfl) (by decide +kernel)
theorem vL_82 : LV RL 82 RX12 yX12_known cX12_known 4 (some .int) 3 := ⟨m_1562, m_1563, m_1564, m_12, m_1565, rfl, by decide, by decide, by decide +kernel⟩
theorem m_670 : (Cond.methodLink "NoonValleyLaw" 83 yX11_together) ∈ BW := bw (tb3 190 rfl) (by decide +kernel)
theorem m_671 : (Cond.instanceMethod yX11_together) ∈ BW := bw (tb3 191 rfl) (by decide +kernel)
theorem m_672 : (Cond.selects "NoonValley" yX11_together yX11_together) ∈ BW := bw (tb3 192 rfl) (by decide +kernel)
theorem vL_83 : LV RL 83 RX11 yX11_together cX11_together 7 (some .int) 3 := ⟨m_670, m_671, m_672, m_1, m_673, rfl, by decide, by decide, by decide +kernel⟩
theorem m_1582 : (Cond.methodLink "NoonValleyLaw" 86 yX12_together) ∈ BW := bw (tb7 142 rfl) (by decide +kernel)
theorem m_1583 : (Cond.instanceMethod yX12_together) ∈ BW := bw (tb7 143 rfl) (by decide +kernel)
theorem m_1584 : (Cond.selects "NoonValleyModel" yX12_together yX12_together) ∈ BW := bw (tb7 144 rfl) (by decide +kernel)
theorem vL_86 : LV RL 86 RX12 yX12_together cX12_together 6 (some .int) 3 := ⟨m_1582, m_1583, m_1584, m_12, m_1585, rfl, by decide, by decide, by decide +kernel⟩
theorem m_678 : (Cond.methodLink "NoonValleyLaw" 87 yX11_when) ∈ BW := bw (tb3 198 rfl) (by decide +kernel)
theorem m_679 : (Cond.instanceMethod yX11_when) ∈ BW := bw (tb3 199 rfl) (by decide +kernel)
theorem m_680 : (Cond.selects "NoonValley" yX11_when yX11_when) ∈ BW := bw (tb3 200 rfl) (by decide +kernel)
theorem vL_87 : LV RL 87 RX11 yX11_when cX11_when 5 (some .int) 2 := ⟨m_678, m_679, m_680, m_1, m_681, rfl, by decide, by decide, by decide +kernel⟩
theorem m_1590 : (Cond.methodLink "NoonValleyLaw" 90 yX12_when) ∈ BW := bw (tb7 150 rfl) (by decide +kernel)
theorem m_1591 : (Cond.instanceMethod yX12_when) ∈ BW := bw (tb7 151 rfl) (by decide +kernel)
theorem m_1592 : (Cond.selects "NoonValleyModel" yX12_when yX12_when) ∈ BW := bw (tb7 152 rfl) (by decide +kernel)
theorem vL_90 : LV RL 90 RX12 yX12_when cX12_when 6 (some .int) 2 := ⟨m_1590, m_1591, m_1592, m_12, m_1593, rfl, by decide, by decide, by decide +kernel⟩
theorem m_690 : (Cond.methodLink "NoonValleyLaw" 91 yX11_least) ∈ BW := bw (tb3 210 rfl) (by decide +kernel)
theorem m_691 : (Cond.instanceMethod yX11_least) ∈ BW := bw (tb3 211 rfl) (by decide +kernel)
theorem m_692 : (Cond.selects "NoonValley" yX11_least yX11_least) ∈ BW := bw (tb3 212 rfl) (by decide +kernel)
theorem vL_91 : LV RL 91 RX11 yX11_least cX11_least 5 (some .int) 3 := ⟨m_690, m_691, m_692, m_1, m_693, rfl, by decide, by decide, by decide +kernel⟩
theorem m_1602 : (Cond.methodLink "NoonValleyLaw" 94 yX12_least) ∈ BW := bw (tb7 162 rfl) (by decide +kernel)
theorem m_1603 : (Cond.instanceMethod yX12_least) ∈ BW := bw (tb7 163 rfl) (by decide +kernel)
theorem m_1604 : (Cond.selects "NoonValleyModel" yX12_least yX12_least) ∈ BW := bw (tb7 164 rfl) (by decide +kernel)
theorem vL_94 : LV RL 94 RX12 yX12_least cX12_least 5 (some .int) 3 := ⟨m_1602, m_1603, m_1604, m_12, m_1605, rfl, by decide, by decide, by decide +kernel⟩
theorem m_781 : (Cond.methodLink "NoonValleyLaw" 95 yX11_found) ∈ BW := bw (tb4 61 rfl) (by decide +kernel)
theorem m_782 : (Cond.instanceMethod yX11_found) ∈ BW := bw (tb4 62 rfl) (by decide +kernel)
theorem m_783 : (Cond.selects "NoonValley" yX11_found yX11_found) ∈ BW := bw (tb4 63 rfl) (by decide +kernel)
theorem vL_95 : LV RL 95 RX11 yX11_found cX11_found 8 (some .int) 5 := ⟨m_781, m_782, m_783, m_1, m_784, rfl, by decide, by decide, by decide +kernel⟩
theorem m_1634 : (Cond.methodLink "NoonValleyLaw" 98 yX12_found) ∈ BW := bw (tb7 194 rfl) (by decide +kernel)
theorem m_1635 : (Cond.instanceMethod yX12_found) ∈ BW := bw (tb7 195 rfl) (by decide +kernel)
theorem m_1636 : (Cond.selects "NoonValleyModel" yX12_found yX12_found) ∈ BW := bw (tb7 196 rfl) (by decide +kernel)
theorem vL_98 : LV RL 98 RX12 yX12_found cX12_found 11 (some .int) 5 := ⟨m_1634, m_1635, m_1636, m_12, m_1637, rfl, by decide, by decide, by decide +kernel⟩
theorem m_801 : (Cond.methodLink "NoonValleyLaw" 99 yX11_reach) ∈ BW := bw (tb4 81 rfl) (by decide +kernel)
theorem m_802 : (Cond.instanceMethod yX11_reach) ∈ BW := bw (tb4 82 rfl) (by decide +kernel)
theorem m_803 : (Cond.selects "NoonValley" yX11_reach yX11_reach) ∈ BW := bw (tb4 83 rfl) (by decide +kernel)
theorem vL_99 : LV RL 99 RX11 yX11_reach cX11_reach 6 (some .int) 4 := ⟨m_801, m_802, m_803, m_1, m_804, rfl, by decide, by decide, by decide +kernel⟩
theorem m_1654 : (Cond.methodLink "NoonValleyLaw" 102 yX12_reach) ∈ BW := bw (tb7 214 rfl) (by decide +kernel)
theorem m_1655 : (Cond.instanceMethod yX12_reach) ∈ BW := bw (tb7 215 rfl) (by decide +kernel)
theorem m_1656 : (Cond.selects "NoonValleyModel" yX12_reach yX12_reach) ∈ BW := bw (tb7 216 rfl) (by decide +kernel)
theorem vL_102 : LV RL 102 RX12 yX12_reach cX12_reach 9 (some .int) 4 := ⟨m_1654, m_1655, m_1656, m_12, m_1657, rfl, by decide, by decide, by decide +kernel⟩
theorem m_818 : (Cond.methodLink "NoonValleyLaw" 103 yX11_from) ∈ BW := bw (tb4 98 rfl) (by decide +kernel)
theorem m_819 : (Cond.instanceMethod yX11_from) ∈ BW := bw (tb4 99 rfl) (by decide +kernel)
theorem m_820 : (Cond.selects "NoonValley" yX11_from yX11_from) ∈ BW := bw (tb4 100 rfl) (by decide +kernel)
theorem vL_103 : LV RL 103 RX11 yX11_from cX11_from 5 (some .int) 3 := ⟨m_818, m_819, m_820, m_1, m_821, rfl, by decide, by decide, by decide +kernel⟩
theorem m_1642 : (Cond.methodLink "NoonValleyLaw" 106 yX12_from) ∈ BW := bw (tb7 202 rfl) (by decide +kernel)
theorem m_1643 : (Cond.instanceMethod yX12_from) ∈ BW := bw (tb7 203 rfl) (by decide +kernel)
theorem m_1644 : (Cond.selects "NoonValleyModel" yX12_from yX12_from) ∈ BW := bw (tb7 204 rfl) (by decide +kernel)
theorem vL_106 : LV RL 106 RX12 yX12_from cX12_from 8 (some .int) 3 := ⟨m_1642, m_1643, m_1644, m_12, m_1645, rfl, by decide, by decide, by decide +kernel⟩
theorem m_833 : (Cond.methodLink "NoonValleyLaw" 107 yX11_added) ∈ BW := bw (tb4 113 rfl) (by decide +kernel)
theorem m_834 : (Cond.instanceMethod yX11_added) ∈ BW := bw (tb4 114 rfl) (by decide +kernel)
theorem m_835 : (Cond.selects "NoonValley" yX11_added yX11_added) ∈ BW := bw (tb4 115 rfl) (by decide +kernel)
theorem vL_107 : LV RL 107 RX11 yX11_added cX11_added 5 (some .int) 3 := ⟨m_833, m_834, m_835, m_1, m_836, rfl, by decide, by decide, by decide +kernel⟩
theorem m_1646 : (Cond.methodLink "NoonValleyLaw" 110 yX12_added) ∈ BW := bw (tb7 206 rfl) (by decide +kernel)
theorem m_1647 : (Cond.instanceMethod yX12_added) ∈ BW := bw (tb7 207 rfl) (by decide +kernel)
theorem m_1648 : (Cond.selects "NoonValleyModel" yX12_added yX12_added) ∈ BW := bw (tb7 208 rfl) (by decide +kernel)
theorem vL_110 : LV RL 110 RX12 yX12_added cX12_added 11 (some .int) 3 := ⟨m_1646, m_1647, m_1648, m_12, m_1649, rfl, by decide, by decide, by decide +kernel⟩
theorem m_854 : (Cond.methodLink "NoonValleyLaw" 111 yX11_shut) ∈ BW := bw (tb4 134 rfl) (by decide +kernel)
theorem m_855 : (Cond.instanceMethod yX11_shut) ∈ BW := bw (tb4 135 rfl) (by decide +kernel)
theorem m_856 : (Cond.selects "NoonValley" yX11_shut yX11_shut) ∈ BW := bw (tb4 136 rfl) (by decide +kernel)
theorem vL_111 : LV RL 111 RX11 yX11_shut cX11_shut 6 (some .int) 4 := ⟨m_854, m_855, m_856, m_1, m_857, rfl, by decide, by decide, by decide +kernel⟩
theorem m_1663 : (Cond.methodLink "NoonValleyLaw" 114 yX12_shut) ∈ BW := bw (tb7 223 rfl) (by decide +kernel)
theorem m_1664 : (Cond.instanceMethod yX12_shut) ∈ BW := bw (tb7 224 rfl) (by decide +kernel)
theorem m_1665 : (Cond.selects "NoonValleyModel" yX12_shut yX12_shut) ∈ BW := bw (tb7 225 rfl) (by decide +kernel)
theorem vL_114 : LV RL 114 RX12 yX12_shut cX12_shut 9 (some .int) 4 := ⟨m_1663, m_1664, m_1665, m_12, m_1666, rfl, by decide, by decide, by decide +kernel⟩
theorem m_879 : (Cond.methodLink "NoonValleyLaw" 115 yX11_fewest) ∈ BW := bw (tb4 159 rfl) (by decide +kernel)
theorem m_880 : (Cond.instanceMethod yX11_fewest) ∈ BW := bw (tb4 160 rfl) (by decide +kernel)
theorem m_881 : (Cond.selects "NoonValley" yX11_fewest yX11_fewest) ∈ BW := bw (tb4 161 rfl) (by decide +kernel)
theorem vL_115 : LV RL 115 RX11 yX11_fewest cX11_fewest 3 (some .int) 1 := ⟨m_879, m_880, m_881, m_1, m_882, rfl, by decide, by decide, by decide +kernel⟩
theorem m_1671 : (Cond.methodLink "NoonValleyLaw" 118 yX12_fewest) ∈ BW := bw (tb7 231 rfl) (by decide +kernel)
theorem m_1672 : (Cond.instanceMethod yX12_fewest) ∈ BW := bw (tb7 232 rfl) (by decide +kernel)
theorem m_1673 : (Cond.selects "NoonValleyModel" yX12_fewest yX12_fewest) ∈ BW := bw (tb7 233 rfl) (by decide +kernel)
theorem vL_118 : LV RL 118 RX12 yX12_fewest cX12_fewest 2 (some .int) 1 := ⟨m_1671, m_1672, m_1673, m_12, m_1674, rfl, by decide, by decide, by decide +kernel⟩
theorem m_919 : (Cond.methodLink "NoonValleyLaw" 119 yX11_gossip) ∈ BW := bw (tb4 199 rfl) (by decide +kernel)
theorem m_920 : (Cond.instanceMethod yX11_gossip) ∈ BW := bw (tb4 200 rfl) (by decide +kernel)
theorem m_921 : (Cond.selects "NoonValley" yX11_gossip yX11_gossip) ∈ BW := bw (tb4 201 rfl) (by decide +kernel)
theorem vL_119 : LV RL 119 RX11 yX11_gossip cX11_gossip 4 (some .int) 2 := ⟨m_919, m_920, m_921, m_1, m_922, rfl, by decide, by decide, by decide +kernel⟩
theorem m_1687 : (Cond.methodLink "NoonValleyLaw" 122 yX12_gossip) ∈ BW := bw (tb8 7 rfl) (by decide +kernel)
theorem m_1688 : (Cond.instanceMethod yX12_gossip) ∈ BW := bw (tb8 8 rfl) (by decide +kernel)
theorem m_1689 : (Cond.selects "NoonValleyModel" yX12_gossip yX12_gossip) ∈ BW := bw (tb8 9 rfl) (by decide +kernel)
theorem vL_122 : LV RL 122 RX12 yX12_gossip cX12_gossip 4 (some .int) 2 := ⟨m_1687, m_1688, m_1689, m_12, m_1690, rfl, by decide, by decide, by decide +kernel⟩
theorem m_923 : (Cond.methodLink "NoonValleyLaw" 123 yX11_ends) ∈ BW := bw (tb4 203 rfl) (by decide +kernel)
theorem m_924 : (Cond.instanceMethod yX11_ends) ∈ BW := bw (tb4 204 rfl) (by decide +kernel)
theorem m_925 : (Cond.selects "NoonValley" yX11_ends yX11_ends) ∈ BW := bw (tb4 205 rfl) (by decide +kernel)
theorem vL_123 : LV RL 123 RX11 yX11_ends cX11_ends 4 (some .int) 2 := ⟨m_923, m_924, m_925, m_1, m_926, rfl, by decide, by decide, by decide +kernel⟩
theorem m_1691 : (Cond.methodLink "NoonValleyLaw" 126 yX12_ends) ∈ BW := bw (tb8 11 rfl) (by decide +kernel)
theorem m_1692 : (Cond.instanceMethod yX12_ends) ∈ BW := bw (tb8 12 rfl) (by decide +kernel)
theorem m_1693 : (Cond.selects "NoonValleyModel" yX12_ends yX12_ends) ∈ BW := bw (tb8 13 rfl) (by decide +kernel)
theorem vL_126 : LV RL 126 RX12 yX12_ends cX12_ends 4 (some .int) 2 := ⟨m_1691, m_1692, m_1693, m_12, m_1694, rfl, by decide, by decide, by decide +kernel⟩
theorem m_930 : (Cond.methodLink "NoonValleyLaw" 127 yX11_trade) ∈ BW := bw (tb4 210 rfl) (by decide +kernel)
theorem m_931 : (Cond.instanceMethod yX11_trade) ∈ BW := bw (tb4 211 rfl) (by decide +kernel)
theorem m_932 : (Cond.selects "NoonValley" yX11_trade yX11_trade) ∈ BW := bw (tb4 212 rfl) (by decide +kernel)
theorem vL_127 : LV RL 127 RX11 yX11_trade cX11_trade 6 (some .int) 3 := ⟨m_930, m_931, m_932, m_1, m_933, rfl, by decide, by decide, by decide +kernel⟩
theorem m_1695 : (Cond.methodLink "NoonValleyLaw" 130 yX12_trade) ∈ BW := bw (tb8 15 rfl) (by decide +kernel)
theorem m_1696 : (Cond.instanceMethod yX12_trade) ∈ BW := bw (tb8 16 rfl) (by decide +kernel)
theorem m_1697 : (Cond.selects "NoonValleyModel" yX12_trade yX12_trade) ∈ BW := bw (tb8 17 rfl) (by decide +kernel)
theorem vL_130 : LV RL 130 RX12 yX12_trade cX12_trade 6 (some .int) 3 := ⟨m_1695, m_1696, m_1697, m_12, m_1698, rfl, by decide, by decide, by decide +kernel⟩
theorem m_978 : (Cond.methodLink "NoonValleyLaw" 131 yX11_card) ∈ BW := bw (tb5 18 rfl) (by decide +kernel)
theorem m_979 : (Cond.instanceMethod yX11_card) ∈ BW := bw (tb5 19 rfl) (by decide +kernel)
theorem m_980 : (Cond.selects "NoonValley" yX11_card yX11_card) ∈ BW := bw (tb5 20 rfl) (by decide +kernel)
theorem vL_131 : LV RL 131 RX11 yX11_card cX11_card 5 (some .int) 3 := ⟨m_978, m_979, m_980, m_1, m_981, rfl, by decide, by decide, by decide +kernel⟩
theorem m_1714 : (Cond.methodLink "NoonValleyLaw" 134 yX12_card) ∈ BW := bw (tb8 34 rfl) (by decide +kernel)
theorem m_1715 : (Cond.instanceMethod yX12_card) ∈ BW := bw (tb8 35 rfl) (by decide +kernel)
theorem m_1716 : (Cond.selects "NoonValleyModel" yX12_card yX12_card) ∈ BW := bw (tb8 36 rfl) (by decide +kernel)
theorem vL_134 : LV RL 134 RX12 yX12_card cX12_card 5 (some .int) 3 := ⟨m_1714, m_1715, m_1716, m_12, m_1717, rfl, by decide, by decide, by decide +kernel⟩
theorem m_986 : (Cond.methodLink "NoonValleyLaw" 135 yX11_blank) ∈ BW := bw (tb5 26 rfl) (by decide +kernel)
theorem m_987 : (Cond.instanceMethod yX11_blank) ∈ BW := bw (tb5 27 rfl) (by decide +kernel)
theorem m_988 : (Cond.selects "NoonValley" yX11_blank yX11_blank) ∈ BW := bw (tb5 28 rfl) (by decide +kernel)
theorem vL_135 : LV RL 135 RX11 yX11_blank cX11_blank 3 (some .boolean) 1 := ⟨m_986, m_987, m_988, m_1, m_989, rfl, by decide, by decide, by decide +kernel⟩
theorem m_1718 : (Cond.methodLink "NoonValleyLaw" 138 yX12_blank) ∈ BW := bw (tb8 38 rfl) (by decide +kernel)
theorem m_1719 : (Cond.instanceMethod yX12_blank) ∈ BW := bw (tb8 39 rfl) (by decide +kernel)
theorem m_1720 : (Cond.selects "NoonValleyModel" yX12_blank yX12_blank) ∈ BW := bw (tb8 40 rfl) (by decide +kernel)
theorem vL_138 : LV RL 138 RX12 yX12_blank cX12_blank 3 (some .boolean) 1 := ⟨m_1718, m_1719, m_1720, m_12, m_1721, rfl, by decide, by decide, by decide +kernel⟩
theorem m_994 : (Cond.methodLink "NoonValleyLaw" 139 yX11_kept) ∈ BW := bw (tb5 34 rfl) (by decide +kernel)
theorem m_995 : (Cond.instanceMethod yX11_kept) ∈ BW := bw (tb5 35 rfl) (by decide +kernel)
theorem m_996 : (Cond.selects "NoonValley" yX11_kept yX11_kept) ∈ BW := bw (tb5 36 rfl) (by decide +kernel)
theorem vL_139 : LV RL 139 RX11 yX11_kept cX11_kept 4 (some .int) 2 := ⟨m_994, m_995, m_996, m_1, m_997, rfl, by decide, by decide, by decide +kernel⟩
theorem m_1722 : (Cond.methodLink "NoonValleyLaw" 142 yX12_kept) ∈ BW := bw (tb8 42 rfl) (by decide +kernel)
theorem m_1723 : (Cond.instanceMethod yX12_kept) ∈ BW := bw (tb8 43 rfl) (by decide +kernel)
theorem m_1724 : (Cond.selects "NoonValleyModel" yX12_kept yX12_kept) ∈ BW := bw (tb8 44 rfl) (by decide +kernel)
theorem vL_142 : LV RL 142 RX12 yX12_kept cX12_kept 10 (some .int) 2 := ⟨m_1722, m_1723, m_1724, m_12, m_1725, rfl, by decide, by decide, by decide +kernel⟩
theorem m_1014 : (Cond.methodLink "NoonValleyLaw" 143 yX11_tree) ∈ BW := bw (tb5 54 rfl) (by decide +kernel)
theorem m_1015 : (Cond.instanceMethod yX11_tree) ∈ BW := bw (tb5 55 rfl) (by decide +kernel)
theorem m_1016 : (Cond.selects "NoonValley" yX11_tree yX11_tree) ∈ BW := bw (tb5 56 rfl) (by decide +kernel)
theorem vL_143 : LV RL 143 RX11 yX11_tree cX11_tree 6 (some .int) 4 := ⟨m_1014, m_1015, m_1016, m_1, m_1017, rfl, by decide, by decide, by decide +kernel⟩
theorem m_1726 : (Cond.methodLink "NoonValleyLaw" 146 yX12_tree) ∈ BW := bw (tb8 46 rfl) (by decide +kernel)
theorem m_1727 : (Cond.instanceMethod yX12_tree) ∈ BW := bw (tb8 47 rfl) (by decide +kernel)
theorem m_1728 : (Cond.selects "NoonValleyModel" yX12_tree yX12_tree) ∈ BW := bw (tb8 48 rfl) (by decide +kernel)
theorem vL_146 : LV RL 146 RX12 yX12_tree cX12_tree 5 (some .int) 4 := ⟨m_1726, m_1727, m_1728, m_12, m_1729, rfl, by decide, by decide, by decide +kernel⟩
theorem m_1041 : (Cond.methodLink "NoonValleyLaw" 147 yX11_breaks) ∈ BW := bw (tb5 81 rfl) (by decide +kernel)
theorem m_1042 : (Cond.instanceMethod yX11_breaks) ∈ BW := bw (tb5 82 rfl) (by decide +kernel)
theorem m_1043 : (Cond.selects "NoonValley" yX11_breaks yX11_breaks) ∈ BW := bw (tb5 83 rfl) (by decide +kernel)
theorem vL_147 : LV RL 147 RX11 yX11_breaks cX11_breaks 5 (some .int) 2 := ⟨m_1041, m_1042, m_1043, m_1, m_1044, rfl, by decide, by decide, by decide +kernel⟩
theorem m_1743 : (Cond.methodLink "NoonValleyLaw" 150 yX12_breaks) ∈ BW := bw (tb8 63 rfl) (by decide +kernel)
theorem m_1744 : (Cond.instanceMethod yX12_breaks) ∈ BW := bw (tb8 64 rfl) (by decide +kernel)
theorem m_1745 : (Cond.selects "NoonValleyModel" yX12_breaks yX12_breaks) ∈ BW := bw (tb8 65 rfl) (by decide +kernel)
theorem vL_150 : LV RL 150 RX12 yX12_breaks cX12_breaks 4 (some .int) 2 := ⟨m_1743, m_1744, m_1745, m_12, m_1746, rfl, by decide, by decide, by decide +kernel⟩
theorem m_1063 : (Cond.methodLink "NoonValleyLaw" 151 yX11_breaker) ∈ BW := bw (tb5 103 rfl) (by decide +kernel)
theorem m_1064 : (Cond.instanceMethod yX11_breaker) ∈ BW := bw (tb5 104 rfl) (by decide +kernel)
theorem m_1065 : (Cond.selects "NoonValley" yX11_breaker yX11_breaker) ∈ BW := bw (tb5 105 rfl) (by decide +kernel)
theorem vL_151 : LV RL 151 RX11 yX11_breaker cX11_breaker 3 (some .int) 1 := ⟨m_1063, m_1064, m_1065, m_1, m_1066, rfl, by decide, by decide, by decide +kernel⟩
theorem m_1755 : (Cond.methodLink "NoonValleyLaw" 154 yX12_breaker) ∈ BW := bw (tb8 75 rfl) (by decide +kernel)
theorem m_1756 : (Cond.instanceMethod yX12_breaker) ∈ BW := bw (tb8 76 rfl) (by decide +kernel)
theorem m_1757 : (Cond.selects "NoonValleyModel" yX12_breaker yX12_breaker) ∈ BW := bw (tb8 77 rfl) (by decide +kernel)
theorem vL_154 : LV RL 154 RX12 yX12_breaker cX12_breaker 3 (some .int) 1 := ⟨m_1755, m_1756, m_1757, m_12, m_1758, rfl, by decide, by decide, by decide +kernel⟩
theorem m_1071 : (Cond.methodLink "NoonValleyLaw" 155 yX11_ways) ∈ BW := bw (tb5 111 rfl) (by decide +kernel)
theorem m_1072 : (Cond.instanceMethod yX11_ways) ∈ BW := bw (tb5 112 rfl) (by decide +kernel)
theorem m_1073 : (Cond.selects "NoonValley" yX11_ways yX11_ways) ∈ BW := bw (tb5 113 rfl) (by decide +kernel)
theorem vL_155 : LV RL 155 RX11 yX11_ways cX11_ways 4 (some .long) 3 := ⟨m_1071, m_1072, m_1073, m_1, m_1074, rfl, by decide, by decide, by decide +kernel⟩
theorem m_1759 : (Cond.methodLink "NoonValleyLaw" 159 yX12_ways) ∈ BW := bw (tb8 79 rfl) (by decide +kernel)
theorem m_1760 : (Cond.instanceMethod yX12_ways) ∈ BW := bw (tb8 80 rfl) (by decide +kernel)
theorem m_1761 : (Cond.selects "NoonValleyModel" yX12_ways yX12_ways) ∈ BW := bw (tb8 81 rfl) (by decide +kernel)
theorem vL_159 : LV RL 159 RX12 yX12_ways cX12_ways 7 (some .long) 3 := ⟨m_1759, m_1760, m_1761, m_12, m_1762, rfl, by decide, by decide, by decide +kernel⟩
theorem m_1806 : (Cond.constantLong "NoonValleyLaw" 160 (4294967295 : Int64)) ∈ BW := bw (tb8 126 rfl) (by decide +kernel)
theorem m_1095 : (Cond.methodLink "NoonValleyLaw" 162 yX11_drawn) ∈ BW := bw (tb5 135 rfl) (by decide +kernel)
theorem m_1096 : (Cond.instanceMethod yX11_drawn) ∈ BW := bw (tb5 136 rfl) (by decide +kernel)
theorem m_1097 : (Cond.selects "NoonValley" yX11_drawn yX11_drawn) ∈ BW := bw (tb5 137 rfl) (by decide +kernel)
theorem vL_162 : LV RL 162 RX11 yX11_drawn cX11_drawn 5 (some .int) 3 := ⟨m_1095, m_1096, m_1097, m_1, m_1098, rfl, by decide, by decide, by decide +kernel⟩
theorem m_1768 : (Cond.methodLink "NoonValleyLaw" 166 yX12_drawn) ∈ BW := bw (tb8 88 rfl) (by decide +kernel)
theorem m_1769 : (Cond.instanceMethod yX12_drawn) ∈ BW := bw (tb8 89 rfl) (by decide +kernel)
theorem m_1770 : (Cond.selects "NoonValleyModel" yX12_drawn yX12_drawn) ∈ BW := bw (tb8 90 rfl) (by decide +kernel)
theorem vL_166 : LV RL 166 RX12 yX12_drawn cX12_drawn 13 (some .int) 3 := ⟨m_1768, m_1769, m_1770, m_12, m_1771, rfl, by decide, by decide, by decide +kernel⟩
theorem m_1105 : (Cond.methodLink "NoonValleyLaw" 167 yX11_tale) ∈ BW := bw (tb5 145 rfl) (by decide +kernel)
theorem m_1106 : (Cond.instanceMethod yX11_tale) ∈ BW := bw (tb5 146 rfl) (by decide +kernel)
theorem m_1107 : (Cond.selects "NoonValley" yX11_tale yX11_tale) ∈ BW := bw (tb5 147 rfl) (by decide +kernel)
theorem vL_167 : LV RL 167 RX11 yX11_tale cX11_tale 6 (some .boolean) 4 := ⟨m_1105, m_1106, m_1107, m_1, m_1108, rfl, by decide, by decide, by decide +kernel⟩
theorem m_1774 : (Cond.methodLink "NoonValleyLaw" 171 yX12_tale) ∈ BW := bw (tb8 94 rfl) (by decide +kernel)
theorem m_1775 : (Cond.instanceMethod yX12_tale) ∈ BW := bw (tb8 95 rfl) (by decide +kernel)
theorem m_1776 : (Cond.selects "NoonValleyModel" yX12_tale yX12_tale) ∈ BW := bw (tb8 96 rfl) (by decide +kernel)
theorem vL_171 : LV RL 171 RX12 yX12_tale cX12_tale 5 (some .boolean) 4 := ⟨m_1774, m_1775, m_1776, m_12, m_1777, rfl, by decide, by decide, by decide +kernel⟩
theorem m_1113 : (Cond.methodLink "NoonValleyLaw" 172 yX11_who) ∈ BW := bw (tb5 153 rfl) (by decide +kernel)
theorem m_1114 : (Cond.instanceMethod yX11_who) ∈ BW := bw (tb5 154 rfl) (by decide +kernel)
theorem m_1115 : (Cond.selects "NoonValley" yX11_who yX11_who) ∈ BW := bw (tb5 155 rfl) (by decide +kernel)
theorem vL_172 : LV RL 172 RX11 yX11_who cX11_who 6 (some .int) 2 := ⟨m_1113, m_1114, m_1115, m_1, m_1116, rfl, by decide, by decide, by decide +kernel⟩
theorem m_1778 : (Cond.methodLink "NoonValleyLaw" 175 yX12_who) ∈ BW := bw (tb8 98 rfl) (by decide +kernel)
theorem m_1779 : (Cond.instanceMethod yX12_who) ∈ BW := bw (tb8 99 rfl) (by decide +kernel)
theorem m_1780 : (Cond.selects "NoonValleyModel" yX12_who yX12_who) ∈ BW := bw (tb8 100 rfl) (by decide +kernel)
theorem vL_175 : LV RL 175 RX12 yX12_who cX12_who 5 (some .int) 2 := ⟨m_1778, m_1779, m_1780, m_12, m_1781, rfl, by decide, by decide, by decide +kernel⟩
theorem m_1140 : (Cond.methodLink "NoonValleyLaw" 176 yX11_fits) ∈ BW := bw (tb5 180 rfl) (by decide +kernel)
theorem m_1141 : (Cond.instanceMethod yX11_fits) ∈ BW := bw (tb5 181 rfl) (by decide +kernel)
theorem m_1142 : (Cond.selects "NoonValley" yX11_fits yX11_fits) ∈ BW := bw (tb5 182 rfl) (by decide +kernel)
theorem vL_176 : LV RL 176 RX11 yX11_fits cX11_fits 8 (some .int) 2 := ⟨m_1140, m_1141, m_1142, m_1, m_1143, rfl, by decide, by decide, by decide +kernel⟩
theorem m_1798 : (Cond.methodLink "NoonValleyLaw" 179 yX12_fits) ∈ BW := bw (tb8 118 rfl) (by decide +kernel)
theorem m_1799 : (Cond.instanceMethod yX12_fits) ∈ BW := bw (tb8 119 rfl) (by decide +kernel)
theorem m_1800 : (Cond.selects "NoonValleyModel" yX12_fits yX12_fits) ∈ BW := bw (tb8 120 rfl) (by decide +kernel)
theorem vL_179 : LV RL 179 RX12 yX12_fits cX12_fits 7 (some .int) 2 := ⟨m_1798, m_1799, m_1800, m_12, m_1801, rfl, by decide, by decide, by decide +kernel⟩
theorem m_1149 : (Cond.methodLink "NoonValleyLaw" 180 yX11_count) ∈ BW := bw (tb5 189 rfl) (by decide +kernel)
theorem m_1150 : (Cond.instanceMethod yX11_count) ∈ BW := bw (tb5 190 rfl) (by decide +kernel)
theorem m_1151 : (Cond.selects "NoonValley" yX11_count yX11_count) ∈ BW := bw (tb5 191 rfl) (by decide +kernel)
theorem vL_180 : LV RL 180 RX11 yX11_count cX11_count 2 (some .int) 1 := ⟨m_1149, m_1150, m_1151, m_1, m_1152, rfl, by decide, by decide, by decide +kernel⟩
theorem m_1802 : (Cond.methodLink "NoonValleyLaw" 183 yX12_count) ∈ BW := bw (tb8 122 rfl) (by decide +kernel)
theorem m_1803 : (Cond.instanceMethod yX12_count) ∈ BW := bw (tb8 123 rfl) (by decide +kernel)
theorem m_1804 : (Cond.selects "NoonValleyModel" yX12_count yX12_count) ∈ BW := bw (tb8 124 rfl) (by decide +kernel)
theorem vL_183 : LV RL 183 RX12 yX12_count cX12_count 4 (some .int) 1 := ⟨m_1802, m_1803, m_1804, m_12, m_1805, rfl, by decide, by decide, by decide +kernel⟩
set_option maxHeartbeats 4000000 in
set_option maxRecDepth 100000 in
theorem law_0 {p : Program} {e : Env} {s : State} {m : MethodId} {below : List Frame} {meth : Method} {c : Code} {l : Launch} {b L i C S x0 m0 o0 : Nat} {xs : Nat → Int32} {g : GG} {Γ : Nat → Nat} {H : Heap} {locs : List Loc} {q : RLT} {V : Nat → VV} {P : Nat → PP} {ls : Array Slot} {cells slots : Nat} (X : CTX p l m meth c cL_law 7 s #[Value.ref b] RL g (AL s)) (hr : meth.sig.returnType = ret) (hX : va_X b L xs s s.heap) (hbl : b < s.heap.size) (hL : L ≤ 3072) (hi : i + 6 ≤ L) (hS : LWS g x0 m0 o0 s Γ H locs) (hl : lv_has ls 7 (LO b x0 m0 o0 i)) (hc : cells + 13 ≤ C) (hs : slots + 380 ≤ S) (hcC : C ≤ 601024) (hSl : S ≤ 7293034) (hq : RLW q) (hC : R1c g x0 q H) (hD : RCV g x0 q.2.2.1 V H) (hM : R1m g m0 q H) (hN : RRV g m0 q.2.2.1 V H) (hE : RCP g x0 q.2.2.2 P H) (hO : RRP g m0 q.2.2.2 P H) (hY : RMM g m0 H) (hJ : RYK g x0 H) (hZ : PLX q.2.2.1 V q.2.2.2 P) (KK : LGP p l e s m b below meth c g x0 m0 o0 i C S) : W p l e room_1 s m #[Value.ref b] below meth c H locs cells slots (lw_Z below #[Value.ref b] s) (F0 m 204 ls []) := by
  have hx := X.1
  have hb := X.2.1
  refine lv_aload_n (pc := 204) hx hb dL_law_204 rfl (lv_at hl 1 rfl) ?_
  refine law_rd (pc := 205) X hX hbl hS hl 1 (by decide) (by decide) hi hL dL_law_205 dL_law_206 dL_law_208 dL_law_209 dL_law_210 ?_
  refine law_rd (pc := 211) X hX hbl hS hl 2 (by decide) (by decide) hi hL dL_law_211 dL_law_212 dL_law_214 dL_law_215 dL_law_216 ?_
  refine law_rd (pc := 217) X hX hbl hS hl 3 (by decide) (by decide) hi hL dL_law_217 dL_law_218 dL_law_220 dL_law_221 dL_law_222 ?_
  refine law_rd (pc := 223) X hX hbl hS hl 4 (by decide) (by decide) hi hL dL_law_223 dL_law_224 dL_law_226 dL_law_227 dL_law_228 ?_
  refine law_rd (pc := 229) X hX hbl hS hl 5 (by decide) (by decide) hi hL dL_law_229 dL_law_230 dL_law_232 dL_law_233 dL_law_234 ?_
  refine law_callE (pc := 235) (ci := 11) (As := [.int (xs (i + 1)), .int (xs (i + 2)), .int (xs (i + 3)), .int (xs (i + 4)), .int (xs (i + 5))]) (rs := []) X hS (E11_feed hq.1 hS.1.2.1 hS.2.1.1 (xs (i + 1)) (xs (i + 2)) (xs (i + 3)) (xs (i + 4)) (xs (i + 5))) vL_19 rfl hS.2.1.1 (by decide) rfl hC rfl hl.1 rfl (Nat.le_of_ble_eq_true rfl) ⟨Nat.le_of_ble_eq_true rfl, Nat.le_of_ble_eq_true rfl⟩ ⟨by omega, by omega⟩ dL_law_235 rfl rfl (fun x9 H locs hp hun hS9 => ?_)
  obtain ⟨hx9, hN9⟩ := hp
  obtain rfl := Value.int.inj hx9
  have hM := RR1.keep hM hS.1.1 hS.2.1.2.1 hun rfl
  have hD := RCV.keep hD hq.2.1 hS.1.1 hS9.1.1 hS.2.1.1 hun rfl
  have hN := RRV.keep hN hS.1.1 hS.2.1.2.1 hun rfl rfl
  have hE := RCP.keep hE hq.2.2 hS.1.1 hS9.1.1 hS.2.1.1 hun rfl
  have hO := RRP.keep hO hS.1.1 hS.2.1.2.1 hun rfl rfl
  have hY := RMM.keep hY hS.2.1.2.1 hun rfl
  have hJ := RYK.keep hJ hS.1.1 hS.2.1.1 hun rfl
  have hC := hN9
  have hS := hS9
  refine lv_pop (pc := 238) hx hb dL_law_238 rfl ?_
  refine lv_aload_n (pc := 239) hx hb dL_law_239 rfl (lv_at hl 2 rfl) ?_
  refine law_rd (pc := 240) X hX hbl hS hl 1 (by decide) (by decide) hi hL dL_law_240 dL_law_241 dL_law_243 dL_law_244 dL_law_245 ?_
  refine law_rd (pc := 246) X hX hbl hS hl 2 (by decide) (by decide) hi hL dL_law_246 dL_law_247 dL_law_249 dL_law_250 dL_law_251 ?_
  refine law_rd (pc := 252) X hX hbl hS hl 3 (by decide) (by decide) hi hL dL_law_252 dL_law_253 dL_law_255 dL_law_256 dL_law_257 ?_
  refine law_rd (pc := 258) X hX hbl hS hl 4 (by decide) (by decide) hi hL dL_law_258 dL_law_259 dL_law_261 dL_law_262 dL_law_263 ?_
  refine law_rd (pc := 264) X hX hbl hS hl 5 (by decide) (by decide) hi hL dL_law_264 dL_law_265 dL_law_267 dL_law_268 dL_law_269 ?_
  refine law_callE (pc := 270) (ci := 12) (As := [.int (xs (i + 1)), .int (xs (i + 2)), .int (xs (i + 3)), .int (xs (i + 4)), .int (xs (i + 5))]) (rs := []) X hS (E12_feed hq.1 hS.1.2.1 hS.2.1.2.1 (xs (i + 1)) (xs (i + 2)) (xs (i + 3)) (xs (i + 4)) (xs (i + 5))) vL_23 rfl hS.2.1.2.1 (by decide) rfl hM rfl hl.1 rfl (Nat.le_of_ble_eq_true rfl) ⟨Nat.le_of_ble_eq_true rfl, Nat.le_of_ble_eq_true rfl⟩ ⟨by omega, by omega⟩ dL_law_270 rfl rfl (fun x9 H locs hp hun hS9 => ?_)
  obtain ⟨hx9, hN9⟩ := hp
  obtain rfl := Value.int.inj hx9
  have hC := RC1.keep hC hS.1.1 hS.2.1.1 hun rfl
  have hD := RCV.keep hD hq.2.1 hS.1.1 hS9.1.1 hS.2.1.1 hun rfl
  have hN := RRV.keep hN hS.1.1 hS.2.1.2.1 hun rfl rfl
  have hE := RCP.keep hE hq.2.2 hS.1.1 hS9.1.1 hS.2.1.1 hun rfl
  have hO := RRP.keep hO hS.1.1 hS.2.1.2.1 hun rfl rfl
  have hY := RMM.keep hY hS.2.1.2.1 hun rfl
  have hJ := RYK.keep hJ hS.1.1 hS.2.1.1 hun rfl
  have hM := hN9
  have hS := hS9
  refine lv_pop (pc := 273) hx hb dL_law_273 rfl ?_
  refine lv_goto (tgt := 1864) (pc := 274) hx hb dL_law_274 rfl ?_
  exact KK _ _ _ _ _ _ (fdQ q (xs (i + 1)) (xs (i + 2)) (xs (i + 3)) (xs (i + 4)) (xs (i + 5))) _ _ (by omega) (by omega) hS (fdQ_w hq) hC hD hE hM hN hO hY hJ hZ (lv_sub hl [0, 1, 2, 3, 4] rfl)

set_option maxHeartbeats 4000000 in
set_option maxRecDepth 100000 in
theorem law_1 {p : Program} {e : Env} {s : State} {m : MethodId} {below : List Frame} {meth : Method} {c : Code} {l : Launch} {b L i C S x0 m0 o0 : Nat} {xs : Nat → Int32} {g : GG} {Γ : Nat → Nat} {H : Heap} {locs : List Loc} {q : RLT} {V : Nat → VV} {P : Nat → PP} {ls : Array Slot} {cells slots : Nat} (X : CTX p l m meth c cL_law 7 s #[Value.ref b] RL g (AL s)) (hr : meth.sig.returnType = ret) (hX : va_X b L xs s s.heap) (hbl : b < s.heap.size) (hL : L ≤ 3072) (hi : i + 6 ≤ L) (hS : LWS g x0 m0 o0 s Γ H locs) (hl : lv_has ls 7 (LO b x0 m0 o0 i)) (hc : cells + 13 ≤ C) (hs : slots + 380 ≤ S) (hcC : C ≤ 601024) (hSl : S ≤ 7293034) (hq : RLW q) (hC : R1c g x0 q H) (hD : RCV g x0 q.2.2.1 V H) (hM : R1m g m0 q H) (hN : RRV g m0 q.2.2.1 V H) (hE : RCP g x0 q.2.2.2 P H) (hO : RRP g m0 q.2.2.2 P H) (hY : RMM g m0 H) (hJ : RYK g x0 H) (hZ : PLX q.2.2.1 V q.2.2.2 P) (KK : LGP p l e s m b below meth c g x0 m0 o0 i C S) : W p l e room_1 s m #[Value.ref b] below meth c H locs cells slots (lw_Z below #[Value.ref b] s) (F0 m 277 ls []) := by
  have hx := X.1
  have hb := X.2.1
  refine lv_aload_n (pc := 277) hx hb dL_law_277 rfl (lv_at hl 1 rfl) ?_
  refine law_rd (pc := 278) X hX hbl hS hl 1 (by decide) (by decide) hi hL dL_law_278 dL_law_279 dL_law_281 dL_law_282 dL_law_283 ?_
  refine law_callE (pc := 284) (ci := 11) (As := [.int (xs (i + 1))]) (rs := []) X hS (E11_end hq.1 hS.1.2.1 hS.2.1.1 (xs (i + 1))) vL_24 rfl hS.2.1.1 (by decide) rfl hC rfl hl.1 rfl (Nat.le_of_ble_eq_true rfl) ⟨Nat.le_of_ble_eq_true rfl, Nat.le_of_ble_eq_true rfl⟩ ⟨by omega, by omega⟩ dL_law_284 rfl rfl (fun x9 H locs hp hun hS9 => ?_)
  obtain ⟨hx9, hN9⟩ := hp
  obtain rfl := Value.int.inj hx9
  have hM := RR1.keep hM hS.1.1 hS.2.1.2.1 hun rfl
  have hD := RCV.keep hD hq.2.1 hS.1.1 hS9.1.1 hS.2.1.1 hun rfl
  have hN := RRV.keep hN hS.1.1 hS.2.1.2.1 hun rfl rfl
  have hE := RCP.keep hE hq.2.2 hS.1.1 hS9.1.1 hS.2.1.1 hun rfl
  have hO := RRP.keep hO hS.1.1 hS.2.1.2.1 hun rfl rfl
  have hY := RMM.keep hY hS.2.1.2.1 hun rfl
  have hJ := RYK.keep hJ hS.1.1 hS.2.1.1 hun rfl
  have hC := hN9
  have hS := hS9
  refine lv_pop (pc := 287) hx hb dL_law_287 rfl ?_
  refine lv_aload_n (pc := 288) hx hb dL_law_288 rfl (lv_at hl 2 rfl) ?_
  refine law_rd (pc := 289) X hX hbl hS hl 1 (by decide) (by decide) hi hL dL_law_289 dL_law_290 dL_law_292 dL_law_293 dL_law_294 ?_
  refine law_callE (pc := 295) (ci := 12) (As := [.int (xs (i + 1))]) (rs := []) X hS (E12_end hq.1 hS.1.2.1 hS.2.1.2.1 (xs (i + 1))) vL_28 rfl hS.2.1.2.1 (by decide) rfl hM rfl hl.1 rfl (Nat.le_of_ble_eq_true rfl) ⟨Nat.le_of_ble_eq_true rfl, Nat.le_of_ble_eq_true rfl⟩ ⟨by omega, by omega⟩ dL_law_295 rfl rfl (fun x9 H locs hp hun hS9 => ?_)
  obtain ⟨hx9, hN9⟩ := hp
  obtain rfl := Value.int.inj hx9
  have hC := RC1.keep hC hS.1.1 hS.2.1.1 hun rfl
  have hD := RCV.keep hD hq.2.1 hS.1.1 hS9.1.1 hS.2.1.1 hun rfl
  have hN := RRV.keep hN hS.1.1 hS.2.1.2.1 hun rfl rfl
  have hE := RCP.keep hE hq.2.2 hS.1.1 hS9.1.1 hS.2.1.1 hun rfl
  have hO := RRP.keep hO hS.1.1 hS.2.1.2.1 hun rfl rfl
  have hY := RMM.keep hY hS.2.1.2.1 hun rfl
  have hJ := RYK.keep hJ hS.1.1 hS.2.1.1 hun rfl
  have hM := hN9
  have hS := hS9
  refine lv_pop (pc := 298) hx hb dL_law_298 rfl ?_
  refine lv_goto (tgt := 1864) (pc := 299) hx hb dL_law_299 rfl ?_
  exact KK _ _ _ _ _ _ (enQ q (xs (i + 1))) _ _ (by omega) (by omega) hS (enQ_w hq) hC hD hE hM hN hO hY hJ hZ (lv_sub hl [0, 1, 2, 3, 4] rfl)

set_option maxHeartbeats 4000000 in
set_option maxRecDepth 100000 in
theorem law_2 {p : Program} {e : Env} {s : State} {m : MethodId} {below : List Frame} {meth : Method} {c : Code} {l : Launch} {b L i C S x0 m0 o0 : Nat} {xs : Nat → Int32} {g : GG} {Γ : Nat → Nat} {H : Heap} {locs : List Loc} {q : RLT} {V : Nat → VV} {P : Nat → PP} {ls : Array Slot} {cells slots : Nat} (X : CTX p l m meth c cL_law 7 s #[Value.ref b] RL g (AL s)) (hr : meth.sig.returnType = ret) (hX : va_X b L xs s s.heap) (hbl : b < s.heap.size) (hL : L ≤ 3072) (hi : i + 6 ≤ L) (hS : LWS g x0 m0 o0 s Γ H locs) (hl : lv_has ls 7 (LO b x0 m0 o0 i)) (hc : cells + 13 ≤ C) (hs : slots + 380 ≤ S) (hcC : C ≤ 601024) (hSl : S ≤ 7293034) (hq : RLW q) (hC : R1c g x0 q H) (hD : RCV g x0 q.2.2.1 V H) (hM : R1m g m0 q H) (hN : RRV g m0 q.2.2.1 V H) (hE : RCP g x0 q.2.2.2 P H) (hO : RRP g m0 q.2.2.2 P H) (hY : RMM g m0 H) (hJ : RYK g x0 H) (hZ : PLX q.2.2.1 V q.2.2.2 P) (KK : LGP p l e s m b below meth c g x0 m0 o0 i C S) : W p l e room_1 s m #[Value.ref b] below meth c H locs cells slots (lw_Z below #[Value.ref b] s) (F0 m 302 ls []) := by
  have hx := X.1
  have hb := X.2.1
  refine lv_aload_n (pc := 302) hx hb dL_law_302 rfl (lv_at hl 1 rfl) ?_
  refine law_callU (pc := 303) (ci := 11) (As := []) (rs := []) X hS (SX11_fault_0 l g) vL_29 rfl hS.2.1.1 (by decide) rfl ⟨av_ref hS.2.1.1 (by decide), trivial⟩ rfl rfl hl.1 rfl (Nat.le_of_ble_eq_true rfl) ⟨Nat.le_of_ble_eq_true rfl, Nat.le_of_ble_eq_true rfl⟩ ⟨by omega, by omega⟩ dL_law_303 rfl rfl (fun x9 H locs hun hS9 => ?_)
  have hC := RC1.keep hC hS.1.1 hS.2.1.1 hun rfl
  have hM := RR1.keep hM hS.1.1 hS.2.1.2.1 hun rfl
  have hD := RCV.keep hD hq.2.1 hS.1.1 hS9.1.1 hS.2.1.1 hun rfl
  have hN := RRV.keep hN hS.1.1 hS.2.1.2.1 hun rfl rfl
  have hE := RCP.keep hE hq.2.2 hS.1.1 hS9.1.1 hS.2.1.1 hun rfl
  have hO := RRP.keep hO hS.1.1 hS.2.1.2.1 hun rfl rfl
  have hY := RMM.keep hY hS.2.1.2.1 hun rfl
  have hJ := RYK.keep hJ hS.1.1 hS.2.1.1 hun rfl
  have hS := hS9
  refine lv_pop (pc := 306) hx hb dL_law_306 rfl ?_
  refine lv_aload_n (pc := 307) hx hb dL_law_307 rfl (lv_at hl 2 rfl) ?_
  refine law_callE (pc := 308) (ci := 12) (As := []) (rs := []) X hS (E12_faultV hq.1 hS.1.2.1 hq.2.1 hS.2.1.2.1) vL_33 rfl hS.2.1.2.1 (by decide) rfl ⟨hM, hN⟩ rfl hl.1 rfl (Nat.le_of_ble_eq_true rfl) ⟨Nat.le_of_ble_eq_true rfl, Nat.le_of_ble_eq_true rfl⟩ ⟨by omega, by omega⟩ dL_law_308 rfl rfl (fun x9 H locs hp hun hS9 => ?_)
  obtain ⟨hx9, hN9⟩ := hp
  obtain rfl := Value.int.inj hx9
  have hC := RC1.keep hC hS.1.1 hS.2.1.1 hun rfl
  have hM := RR1.keep hM hS.1.1 hS.2.1.2.1 hun rfl
  have hD := RCV.keep hD hq.2.1 hS.1.1 hS9.1.1 hS.2.1.1 hun rfl
  have hE := RCP.keep hE hq.2.2 hS.1.1 hS9.1.1 hS.2.1.1 hun rfl
  have hO := RRP.keep hO hS.1.1 hS.2.1.2.1 hun rfl rfl
  have hY := RMM.keep hY hS.2.1.2.1 hun rfl
  have hJ := RYK.keep hJ hS.1.1 hS.2.1.1 hun rfl
  have hN := hN9
  have hS := hS9
  refine lv_pop (pc := 311) hx hb dL_law_311 rfl ?_
  refine lv_goto (tgt := 1864) (pc := 312) hx hb dL_law_312 rfl ?_
  exact KK _ _ _ _ _ _ q _ _ (by omega) (by omega) hS hq hC hD hE hM hN hO hY hJ hZ (lv_sub hl [0, 1, 2, 3, 4] rfl)

set_option maxHeartbeats 4000000 in
set_option maxRecDepth 100000 in
theorem law_3 {p : Program} {e : Env} {s : State} {m : MethodId} {below : List Frame} {meth : Method} {c : Code} {l : Launch} {b L i C S x0 m0 o0 : Nat} {xs : Nat → Int32} {g : GG} {Γ : Nat → Nat} {H : Heap} {locs : List Loc} {q : RLT} {V : Nat → VV} {P : Nat → PP} {ls : Array Slot} {cells slots : Nat} (X : CTX p l m meth c cL_law 7 s #[Value.ref b] RL g (AL s)) (hr : meth.sig.returnType = ret) (hX : va_X b L xs s s.heap) (hbl : b < s.heap.size) (hL : L ≤ 3072) (hi : i + 6 ≤ L) (hS : LWS g x0 m0 o0 s Γ H locs) (hl : lv_has ls 7 (LO b x0 m0 o0 i)) (hc : cells + 13 ≤ C) (hs : slots + 380 ≤ S) (hcC : C ≤ 601024) (hSl : S ≤ 7293034) (hq : RLW q) (hC : R1c g x0 q H) (hD : RCV g x0 q.2.2.1 V H) (hM : R1m g m0 q H) (hN : RRV g m0 q.2.2.1 V H) (hE : RCP g x0 q.2.2.2 P H) (hO : RRP g m0 q.2.2.2 P H) (hY : RMM g m0 H) (hJ : RYK g x0 H) (hZ : PLX q.2.2.1 V q.2.2.2 P) (KK : LGP p l e s m b below meth c g x0 m0 o0 i C S) : W p l e room_1 s m #[Value.ref b] below meth c H locs cells slots (lw_Z below #[Value.ref b] s) (F0 m 315 ls []) := by
  have hx := X.1
  have hb := X.2.1
  refine lv_aload_n (pc := 315) hx hb dL_law_315 rfl (lv_at hl 1 rfl) ?_
  refine law_gcallE (pc := 316) (ci := 11) (As := []) (rs := []) X hS (EG.and (E11_valley (m0 := m0) hq.1 hS.1.2.1 hq.2.1 hS.2.1.1) (EG.and (E11_valleyV (m0 := m0) (V := V) (np := q.2.2.2) hq.1 hS.1.2.1 hq.2.1 hS.2.1.1) (EG.and (E11_valleyP (m0 := m0) (np := q.2.2.2) hq.1 hS.1.2.1 hq.2.1 hq.2.2 hZ.1 hS.2.1.1) (E11_valleyY (m0 := m0) (np := q.2.2.2) hq.1 hS.1.2.1 hq.2.1 hq.2.2 hZ.1 hS.2.1.1)))) vL_34 rfl hS.2.1.1 (by decide) rfl ⟨hC, ⟨hC, hD⟩, ⟨hC, hD, hE⟩, hC, hD, hE, hJ⟩ rfl hl.1 rfl (Nat.le_of_ble_eq_true rfl) ⟨Nat.le_of_ble_eq_true rfl, Nat.le_of_ble_eq_true rfl⟩ ⟨Nat.le_trans (show cells + 13 ≤ C by omega) hcC, Nat.le_trans (show slots + 380 ≤ S by omega) hSl⟩ dL_law_316 (fun x9 Γ1 H locs hp hS9 => ?_)
  obtain ⟨⟨hp1, hp2⟩, ⟨⟨V9, hV9, hD9⟩, hO9⟩, ⟨hE9, hO8⟩, hJ9⟩ := hp
  obtain ⟨hx9, hN9⟩ := vlQ_c hp1
  obtain rfl := Value.int.inj hx9
  have hM := RR1.same hM hS.1.1 hS.2.1.2.1 hp2
  have hN := RRV.same hN hS.1.1 hS.2.1.2.1 hO9
  have hO := RRP.same hO hS.1.1 hS.2.1.2.1 hO8
  have hY := RMM.same hY (hO8 m0 (Or.inl hS.2.1.2.1))
  have hC := hN9
  have hD := hD9
  have hE := hE9
  have hJ := hJ9
  have hS := hS9
  refine lv_pop (pc := 319) hx hb dL_law_319 rfl ?_
  refine lv_aload_n (pc := 320) hx hb dL_law_320 rfl (lv_at hl 2 rfl) ?_
  refine law_callE (pc := 321) (ci := 12) (As := []) (rs := []) X hS (EX.and (E12_valley hq.1 hS.1.2.1 hq.2.1 hS.2.1.2.1) (E12_valleyV (np := q.2.2.2) hq.1 hS.1.2.1 hq.2.1 hS.2.1.2.1 hV9)) vL_37 rfl hS.2.1.2.1 (by decide) rfl ⟨hM, hM, hN⟩ rfl hl.1 rfl (Nat.le_of_ble_eq_true rfl) ⟨Nat.le_of_ble_eq_true rfl, Nat.le_of_ble_eq_true rfl⟩ ⟨by omega, by omega⟩ dL_law_321 rfl rfl (fun x9 H locs hp hun hS9 => ?_)
  obtain ⟨hp1, hN8⟩ := hp
  obtain ⟨hx9, hN9⟩ := vlQ_m hp1
  obtain rfl := Value.int.inj hx9
  have hC := RC1.keep hC hS.1.1 hS.2.1.1 hun rfl
  have hD := RCV.keep hD (vlM_le hq) hS.1.1 hS9.1.1 hS.2.1.1 hun rfl
  have hE := RCP.keep hE hq.2.2 hS.1.1 hS9.1.1 hS.2.1.1 hun rfl
  have hO := RRP.keep hO hS.1.1 hS.2.1.2.1 hun rfl rfl
  have hY := RMM.keep hY hS.2.1.2.1 hun rfl
  have hJ := RYK.keep hJ hS.1.1 hS.2.1.1 hun rfl
  have hM := hN9
  have hN := hN8
  have hS := hS9
  refine lv_pop (pc := 324) hx hb dL_law_324 rfl ?_
  refine lv_goto (tgt := 1864) (pc := 325) hx hb dL_law_325 rfl ?_
  exact KK _ _ _ _ _ _ (vlQ q) V9 P (by omega) (by omega) hS (vlQ_w hq) hC (by rw [vlQ_nv]; exact hD) (by rw [vlQ_np]; exact hE) hM (by rw [vlQ_nv]; exact hN) (by rw [vlQ_np]; exact hO) hY hJ (by rw [vlQ_nv, vlQ_np]; exact plx_vlr hZ hV9) (lv_sub hl [0, 1, 2, 3, 4] rfl)

set_option maxHeartbeats 4000000 in
set_option maxRecDepth 100000 in
theorem law_4 {p : Program} {e : Env} {s : State} {m : MethodId} {below : List Frame} {meth : Method} {c : Code} {l : Launch} {b L i C S x0 m0 o0 : Nat} {xs : Nat → Int32} {g : GG} {Γ : Nat → Nat} {H : Heap} {locs : List Loc} {q : RLT} {V : Nat → VV} {P : Nat → PP} {ls : Array Slot} {cells slots : Nat} (X : CTX p l m meth c cL_law 7 s #[Value.ref b] RL g (AL s)) (hr : meth.sig.returnType = ret) (hX : va_X b L xs s s.heap) (hbl : b < s.heap.size) (hL : L ≤ 3072) (hi : i + 6 ≤ L) (hS : LWS g x0 m0 o0 s Γ H locs) (hl : lv_has ls 7 (LO b x0 m0 o0 i)) (hc : cells + 13 ≤ C) (hs : slots + 380 ≤ S) (hcC : C ≤ 601024) (hSl : S ≤ 7293034) (hq : RLW q) (hC : R1c g x0 q H) (hD : RCV g x0 q.2.2.1 V H) (hM : R1m g m0 q H) (hN : RRV g m0 q.2.2.1 V H) (hE : RCP g x0 q.2.2.2 P H) (hO : RRP g m0 q.2.2.2 P H) (hY : RMM g m0 H) (hJ : RYK g x0 H) (hZ : PLX q.2.2.1 V q.2.2.2 P) (KK : LGP p l e s m b below meth c g x0 m0 o0 i C S) : W p l e room_1 s m #[Value.ref b] below meth c H locs cells slots (lw_Z below #[Value.ref b] s) (F0 m 328 ls []) := by
  have hx := X.1
  have hb := X.2.1
  refine lv_aload_n (pc := 328) hx hb dL_law_328 rfl (lv_at hl 1 rfl) ?_
  refine law_rd (pc := 329) X hX hbl hS hl 1 (by decide) (by decide) hi hL dL_law_329 dL_law_330 dL_law_332 dL_law_333 dL_law_334 ?_
  refine law_rd (pc := 335) X hX hbl hS hl 2 (by decide) (by decide) hi hL dL_law_335 dL_law_336 dL_law_338 dL_law_339 dL_law_340 ?_
  refine law_callU (pc := 341) (ci := 11) (As := [.int (xs (i + 1)), .int (xs (i + 2))]) (rs := []) X hS (SX11_told_0 l g) vL_38 rfl hS.2.1.1 (by decide) rfl ⟨av_ref hS.2.1.1 (by decide), avi_top _, avi_top _, trivial⟩ rfl rfl hl.1 rfl (Nat.le_of_ble_eq_true rfl) ⟨Nat.le_of_ble_eq_true rfl, Nat.le_of_ble_eq_true rfl⟩ ⟨by omega, by omega⟩ dL_law_341 rfl rfl (fun x9 H locs hun hS9 => ?_)
  have hC := RC1.keep hC hS.1.1 hS.2.1.1 hun rfl
  have hM := RR1.keep hM hS.1.1 hS.2.1.2.1 hun rfl
  have hD := RCV.keep hD hq.2.1 hS.1.1 hS9.1.1 hS.2.1.1 hun rfl
  have hN := RRV.keep hN hS.1.1 hS.2.1.2.1 hun rfl rfl
  have hE := RCP.keep hE hq.2.2 hS.1.1 hS9.1.1 hS.2.1.1 hun rfl
  have hO := RRP.keep hO hS.1.1 hS.2.1.2.1 hun rfl rfl
  have hY := RMM.keep hY hS.2.1.2.1 hun rfl
  have hJ := RYK.keep hJ hS.1.1 hS.2.1.1 hun rfl
  have hS := hS9
  refine lv_pop (pc := 344) hx hb dL_law_344 rfl ?_
  refine lv_aload_n (pc := 345) hx hb dL_law_345 rfl (lv_at hl 2 rfl) ?_
  refine law_rd (pc := 346) X hX hbl hS hl 1 (by decide) (by decide) hi hL dL_law_346 dL_law_347 dL_law_349 dL_law_350 dL_law_351 ?_
  refine law_rd (pc := 352) X hX hbl hS hl 2 (by decide) (by decide) hi hL dL_law_352 dL_law_353 dL_law_355 dL_law_356 dL_law_357 ?_
  refine law_callU (pc := 358) (ci := 12) (As := [.int (xs (i + 1)), .int (xs (i + 2))]) (rs := []) X hS (SX12_told_0 l g) vL_42 rfl hS.2.1.2.1 (by decide) rfl ⟨av_ref hS.2.1.2.1 (by decide), avi_top _, avi_top _, trivial⟩ rfl rfl hl.1 rfl (Nat.le_of_ble_eq_true rfl) ⟨Nat.le_of_ble_eq_true rfl, Nat.le_of_ble_eq_true rfl⟩ ⟨by omega, by omega⟩ dL_law_358 rfl rfl (fun x9 H locs hun hS9 => ?_)
  have hC := RC1.keep hC hS.1.1 hS.2.1.1 hun rfl
  have hM := RR1.keep hM hS.1.1 hS.2.1.2.1 hun rfl
  have hD := RCV.keep hD hq.2.1 hS.1.1 hS9.1.1 hS.2.1.1 hun rfl
  have hN := RRV.keep hN hS.1.1 hS.2.1.2.1 hun rfl rfl
  have hE := RCP.keep hE hq.2.2 hS.1.1 hS9.1.1 hS.2.1.1 hun rfl
  have hO := RRP.keep hO hS.1.1 hS.2.1.2.1 hun rfl rfl
  have hY := RMM.keep hY hS.2.1.2.1 hun rfl
  have hJ := RYK.keep hJ hS.1.1 hS.2.1.1 hun rfl
  have hS := hS9
  refine lv_pop (pc := 361) hx hb dL_law_361 rfl ?_
  refine lv_goto (tgt := 1864) (pc := 362) hx hb dL_law_362 rfl ?_
  exact KK _ _ _ _ _ _ q _ _ (by omega) (by omega) hS hq hC hD hE hM hN hO hY hJ hZ (lv_sub hl [0, 1, 2, 3, 4] rfl)

set_option maxHeartbeats 4000000 in
set_option maxRecDepth 100000 in
theorem law_5 {p : Program} {e : Env} {s : State} {m : MethodId} {below : List Frame} {meth : Method} {c : Code} {l : Launch} {b L i C S x0 m0 o0 : Nat} {xs : Nat → Int32} {g : GG} {Γ : Nat → Nat} {H : Heap} {locs : List Loc} {q : RLT} {V : Nat → VV} {P : Nat → PP} {ls : Array Slot} {cells slots : Nat} (X : CTX p l m meth c cL_law 7 s #[Value.ref b] RL g (AL s)) (hr : meth.sig.returnType = ret) (hX : va_X b L xs s s.heap) (hbl : b < s.heap.size) (hL : L ≤ 3072) (hi : i + 6 ≤ L) (hS : LWS g x0 m0 o0 s Γ H locs) (hl : lv_has ls 7 (LO b x0 m0 o0 i)) (hc : cells + 13 ≤ C) (hs : slots + 380 ≤ S) (hcC : C ≤ 601024) (hSl : S ≤ 7293034) (hq : RLW q) (hC : R1c g x0 q H) (hD : RCV g x0 q.2.2.1 V H) (hM : R1m g m0 q H) (hN : RRV g m0 q.2.2.1 V H) (hE : RCP g x0 q.2.2.2 P H) (hO : RRP g m0 q.2.2.2 P H) (hY : RMM g m0 H) (hJ : RYK g x0 H) (hZ : PLX q.2.2.1 V q.2.2.2 P) (KK : LGP p l e s m b below meth c g x0 m0 o0 i C S) (hfl : l.stackTraces = false) (hTh : THR (AL s) s s.heap) : W p l e room_1 s m #[Value.ref b] below meth c H locs cells slots (lw_Z below #[Value.ref b] s) (F0 m 365 ls []) := by
  have hx := X.1
  have hb := X.2.1
  refine lv_aload_n (pc := 365) hx hb dL_law_365 rfl (lv_at hl 1 rfl) ?_
  refine law_rd (pc := 366) X hX hbl hS hl 1 (by decide) (by decide) hi hL dL_law_366 dL_law_367 dL_law_369 dL_law_370 dL_law_371 ?_
  refine law_rd (pc := 372) X hX hbl hS hl 2 (by decide) (by decide) hi hL dL_law_372 dL_law_373 dL_law_375 dL_law_376 dL_law_377 ?_
  refine law_rd (pc := 378) X hX hbl hS hl 3 (by decide) (by decide) hi hL dL_law_378 dL_law_379 dL_law_381 dL_law_382 dL_law_383 ?_
  refine lv_aload_n (pc := 384) hx hb dL_law_384 rfl (lv_at hl 3 rfl) ?_
  refine law_lretP (oo := lnO q.2.2.1 V (xs (i + 1)) (xs (i + 2)) (xs (i + 3))) (pc := 385) (a := [.ref x0, .int (xs (i + 1)), .int (xs (i + 2)), .int (xs (i + 3)), .ref o0].toArray) (fun _ _ _ _ h => h) (vx_runSW (As := [.ref x0, .int (xs (i + 1)), .int (xs (i + 2)), .int (xs (i + 3)), .ref o0]) (rest := []) (hh := [(0, 12, 15, 13)]) ⟨X.1, X.2.1, X.2.2.1, X.2.2.2.1, X.2.2.2.2.1⟩ (GL_lineP l hfl g x0 m0 o0 (xs (i + 1)) (xs (i + 2)) (xs (i + 3)) Γ H H.size hS.1.2.1 hS.2.2.1 hq.2.1 hS.1.1 hC hD) (vx_cwSW 5 X.2.2.2.2.1 (good_in fun w hw => by
      rcases List.mem_append.mp hw with hw | hw
      · simp only [List.mem_cons, List.not_mem_nil, or_false] at hw
        rcases hw with rfl | rfl | rfl
        · exact m_1153
        · exact m_1154
        · exact m_0
      · rcases List.mem_cons.mp hw with rfl | hw
        · exact m_lline
        · exact hw) rfl rfl rfl ⟨by decide, by decide, by decide +kernel⟩ ⟨Nat.le_of_ble_eq_true rfl, Nat.le_of_ble_eq_true rfl⟩) ⟨OPREU.blind, fun U hU hW => ⟨rfl, law_opreU X hTh hS U hU hW⟩⟩ rfl rfl hl.1 rfl (lv_room (Nat.le_of_ble_eq_true rfl)) dL_law_385 ⟨Nat.le_trans (show cells + 1 ≤ C by omega) hcC, Nat.le_trans (show slots + 6 ≤ S by omega) hSl⟩) hS (fun r9 H locs hun hS9 hln => ?_)
  have hC := RC1.keep hC hS.1.1 hS.2.1.1 hun rfl
  have hM := RR1.keep hM hS.1.1 hS.2.1.2.1 hun rfl
  have hD := RCV.keep hD hq.2.1 hS.1.1 hS9.1.1 hS.2.1.1 hun rfl
  have hN := RRV.keep hN hS.1.1 hS.2.1.2.1 hun rfl rfl
  have hE := RCP.keep hE hq.2.2 hS.1.1 hS9.1.1 hS.2.1.1 hun rfl
  have hO := RRP.keep hO hS.1.1 hS.2.1.2.1 hun rfl rfl
  have hY := RMM.keep hY hS.2.1.2.1 hun rfl
  have hJ := RYK.keep hJ hS.1.1 hS.2.1.1 hun rfl
  have hS := hS9
  obtain rfl : r9 = lnT (lnO q.2.2.1 V (xs (i + 1)) (xs (i + 2)) (xs (i + 3))) := hln.thr
  refine lv_istore (lv' := [(5, .int (lnT (lnO q.2.2.1 V (xs (i + 1)) (xs (i + 2)) (xs (i + 3))))), (0, .ref b), (1, .ref x0), (2, .ref m0), (3, .ref o0), (4, .int (nI i))]) (pc := 388) hx hb dL_law_388 hl (by decide) rfl (fun ls hl => ?_)
  refine lv_aload_n (pc := 390) hx hb dL_law_390 rfl (lv_at hl 3 rfl) ?_
  refine law_rd (pc := 391) X hX hbl hS (lv_sub hl [1, 2, 3, 4, 5] rfl) 1 (by decide) (by decide) hi hL dL_law_391 dL_law_392 dL_law_394 dL_law_395 dL_law_396 ?_
  refine law_rd (pc := 397) X hX hbl hS (lv_sub hl [1, 2, 3, 4, 5] rfl) 2 (by decide) (by decide) hi hL dL_law_397 dL_law_398 dL_law_400 dL_law_401 dL_law_402 ?_
  refine law_rd (pc := 403) X hX hbl hS (lv_sub hl [1, 2, 3, 4, 5] rfl) 3 (by decide) (by decide) hi hL dL_law_403 dL_law_404 dL_law_406 dL_law_407 dL_law_408 ?_
  refine law_callEK (pc := 409) (ci := 12) (As := [.int (xs (i + 1)), .int (xs (i + 2)), .int (xs (i + 3))]) (rs := []) X hS (E12_lineP (n := q.1) (fb := q.2.1) (nv := q.2.2.1) (np := q.2.2.2) (V := V) hS.1.2.1 hq.2.1 hS.2.1.2.1 (xs (i + 1)) (xs (i + 2)) (xs (i + 3))) vL_48 rfl hS.2.1.2.1 (by decide) rfl ⟨hM, hN⟩ rfl hl.1 rfl (Nat.le_of_ble_eq_true rfl) ⟨Nat.le_of_ble_eq_true rfl, Nat.le_of_ble_eq_true rfl⟩ ⟨by omega, by omega⟩ dL_law_409 rfl rfl (fun x9 H locs hp hk9 hun hS9 => ?_)
  obtain ⟨hx9, hfe9⟩ := hp
  obtain rfl := Value.int.inj hx9
  have hln := hln.kept (hk9 o0 hS.2.2.1)
  have hC := RC1.keep hC hS.1.1 hS.2.1.1 hun rfl
  have hM := RR1.keep hM hS.1.1 hS.2.1.2.1 hun rfl
  have hD := RCV.keep hD hq.2.1 hS.1.1 hS9.1.1 hS.2.1.1 hun rfl
  have hN := RRV.keep hN hS.1.1 hS.2.1.2.1 hun rfl rfl
  have hE := RCP.keep hE hq.2.2 hS.1.1 hS9.1.1 hS.2.1.1 hun rfl
  have hO := RRP.keep hO hS.1.1 hS.2.1.2.1 hun rfl rfl
  have hY := RMM.keep hY hS.2.1.2.1 hun rfl
  have hJ := RYK.keep hJ hS.1.1 hS.2.1.1 hun rfl
  have hS := hS9
  refine lv_istore (lv' := [(6, .int ((lnO q.2.2.1 V (xs (i + 1)) (xs (i + 2)) (xs (i + 3))).getD 0)), (5, .int (lnT (lnO q.2.2.1 V (xs (i + 1)) (xs (i + 2)) (xs (i + 3))))), (0, .ref b), (1, .ref x0), (2, .ref m0), (3, .ref o0), (4, .int (nI i))]) (pc := 412) hx hb dL_law_412 hl (by decide) rfl (fun ls hl => ?_)
  refine lv_aload_n (pc := 414) hx hb dL_law_414 rfl (lv_at hl 4 rfl) ?_
  refine law_callEK (pc := 415) (ci := 12) (As := []) (rs := []) X hS (E12_thrownP (t := lnT (lnO q.2.2.1 V (xs (i + 1)) (xs (i + 2)) (xs (i + 3)))) hS.1.2.1 hS.2.1.2.1) vL_49 rfl hS.2.1.2.1 (by decide) rfl hfe9 rfl hl.1 rfl (Nat.le_of_ble_eq_true rfl) ⟨Nat.le_of_ble_eq_true rfl, Nat.le_of_ble_eq_true rfl⟩ ⟨by omega, by omega⟩ dL_law_415 rfl rfl (fun x9 H locs hp hk9 hun hS9 => ?_)
  have hx9 := hp
  obtain rfl := Value.int.inj hx9
  have hln := hln.kept (hk9 o0 hS.2.2.1)
  have hC := RC1.keep hC hS.1.1 hS.2.1.1 hun rfl
  have hM := RR1.keep hM hS.1.1 hS.2.1.2.1 hun rfl
  have hD := RCV.keep hD hq.2.1 hS.1.1 hS9.1.1 hS.2.1.1 hun rfl
  have hN := RRV.keep hN hS.1.1 hS.2.1.2.1 hun rfl rfl
  have hE := RCP.keep hE hq.2.2 hS.1.1 hS9.1.1 hS.2.1.1 hun rfl
  have hO := RRP.keep hO hS.1.1 hS.2.1.2.1 hun rfl rfl
  have hY := RMM.keep hY hS.2.1.2.1 hun rfl
  have hJ := RYK.keep hJ hS.1.1 hS.2.1.1 hun rfl
  have hS := hS9
  refine lv_iload (pc := 418) hx hb dL_law_418 (lv_at hl 1 rfl) ?_
  refine lv_icmp_eq (tgt := 425) (pc := 420) hx hb dL_law_420 rfl (fun c1 => ?_) (fun c1 => absurd (rfl : lnT (lnO q.2.2.1 V (xs (i + 1)) (xs (i + 2)) (xs (i + 3))) = lnT (lnO q.2.2.1 V (xs (i + 1)) (xs (i + 2)) (xs (i + 3)))) c1)
  refine lv_iload (pc := 425) hx hb dL_law_425 (lv_at hl 1 rfl) ?_
  refine lv_if_ne (tgt := 442) (pc := 427) hx hb dL_law_427 rfl (fun c2 => ?_) (fun c2 => ?_)
  · refine lv_goto (tgt := 1864) (pc := 442) hx hb dL_law_442 rfl ?_
    exact KK _ _ _ _ _ _ q _ _ (by omega) (by omega) hS hq hC hD hE hM hN hO hY hJ hZ (lv_sub hl [2, 3, 4, 5, 6] rfl)
  · refine lv_aload_n (pc := 430) hx hb dL_law_430 rfl (lv_at hl 5 rfl) ?_
    refine lv_iconst (v := 0) (pc := 431) hx hb dL_law_431 (by decide) ?_
    obtain ⟨f8, hf8, ef8⟩ := hln.out c2
    refine va_lald (pc := 432) X.1 X.2.1 X.2.2.2.2.2.1.1 (vaP_cons hf8 vaP_nil) 0 2 rfl rfl (by unfold vp_in; decide) dL_law_432 ?_
    rw [show (0 : Int32).toNatClampNeg = 0 from by decide, ef8]
    refine lv_iload (pc := 433) hx hb dL_law_433 (lv_at hl 0 rfl) ?_
    refine lv_i2l (pc := 435) hx hb dL_law_435 rfl ?_
    refine W.lcmp (pc := 436) hx hb dL_law_436 ?_
    rw [lg_self]
    refine lv_if_eq (tgt := 442) (pc := 437) hx hb dL_law_437 rfl (fun c3 => ?_) (fun c3 => absurd (by decide) c3)
    refine lv_goto (tgt := 1864) (pc := 442) hx hb dL_law_442 rfl ?_
    exact KK _ _ _ _ _ _ q _ _ (by omega) (by omega) hS hq hC hD hE hM hN hO hY hJ hZ (lv_sub hl [2, 3, 4, 5, 6] rfl)

set_option maxHeartbeats 4000000 in
set_option maxRecDepth 100000 in
theorem law_6 {p : Program} {e : Env} {s : State} {m : MethodId} {below : List Frame} {meth : Method} {c : Code} {l : Launch} {b L i C S x0 m0 o0 : Nat} {xs : Nat → Int32} {g : GG} {Γ : Nat → Nat} {H : Heap} {locs : List Loc} {q : RLT} {V : Nat → VV} {P : Nat → PP} {ls : Array Slot} {cells slots : Nat} (X : CTX p l m meth c cL_law 7 s #[Value.ref b] RL g (AL s)) (hr : meth.sig.returnType = ret) (hX : va_X b L xs s s.heap) (hbl : b < s.heap.size) (hL : L ≤ 3072) (hi : i + 6 ≤ L) (hS : LWS g x0 m0 o0 s Γ H locs) (hl : lv_has ls 7 (LO b x0 m0 o0 i)) (hc : cells + 13 ≤ C) (hs : slots + 380 ≤ S) (hcC : C ≤ 601024) (hSl : S ≤ 7293034) (hq : RLW q) (hC : R1c g x0 q H) (hD : RCV g x0 q.2.2.1 V H) (hM : R1m g m0 q H) (hN : RRV g m0 q.2.2.1 V H) (hE : RCP g x0 q.2.2.2 P H) (hO : RRP g m0 q.2.2.2 P H) (hY : RMM g m0 H) (hJ : RYK g x0 H) (hZ : PLX q.2.2.1 V q.2.2.2 P) (KK : LGP p l e s m b below meth c g x0 m0 o0 i C S) : W p l e room_1 s m #[Value.ref b] below meth c H locs cells slots (lw_Z below #[Value.ref b] s) (F0 m 445 ls []) := by
  have hx := X.1
  have hb := X.2.1
  refine lv_aload_n (pc := 445) hx hb dL_law_445 rfl (lv_at hl 1 rfl) ?_
  refine law_rd (pc := 446) X hX hbl hS hl 1 (by decide) (by decide) hi hL dL_law_446 dL_law_447 dL_law_449 dL_law_450 dL_law_451 ?_
  refine law_rd (pc := 452) X hX hbl hS hl 2 (by decide) (by decide) hi hL dL_law_452 dL_law_453 dL_law_455 dL_law_456 dL_law_457 ?_
  refine law_rd (pc := 458) X hX hbl hS hl 3 (by decide) (by decide) hi hL dL_law_458 dL_law_459 dL_law_461 dL_law_462 dL_law_463 ?_
  refine law_callE (pc := 464) (ci := 11) (As := [.int (xs (i + 1)), .int (xs (i + 2)), .int (xs (i + 3))]) (rs := []) X hS (E11_downV hS.1.2.1 hq.2.1 hS.2.1.1 (xs (i + 1)) (xs (i + 2)) (xs (i + 3))) vL_52 rfl hS.2.1.1 (by decide) rfl ⟨hC, hD⟩ rfl hl.1 rfl (Nat.le_of_ble_eq_true rfl) ⟨Nat.le_of_ble_eq_true rfl, Nat.le_of_ble_eq_true rfl⟩ ⟨by omega, by omega⟩ dL_law_464 rfl rfl (fun x9 H locs hp hun hS9 => ?_)
  obtain ⟨hx9, hN9⟩ := hp
  obtain rfl := Value.int.inj hx9
  have hC := RC1.keep hC hS.1.1 hS.2.1.1 hun rfl
  have hM := RR1.keep hM hS.1.1 hS.2.1.2.1 hun rfl
  have hN := RRV.keep hN hS.1.1 hS.2.1.2.1 hun rfl rfl
  have hE := RCP.keep hE hq.2.2 hS.1.1 hS9.1.1 hS.2.1.1 hun rfl
  have hO := RRP.keep hO hS.1.1 hS.2.1.2.1 hun rfl rfl
  have hY := RMM.keep hY hS.2.1.2.1 hun rfl
  have hJ := RYK.keep hJ hS.1.1 hS.2.1.1 hun rfl
  have hD := hN9
  have hS := hS9
  refine lv_pop (pc := 467) hx hb dL_law_467 rfl ?_
  refine lv_aload_n (pc := 468) hx hb dL_law_468 rfl (lv_at hl 2 rfl) ?_
  refine law_rd (pc := 469) X hX hbl hS hl 1 (by decide) (by decide) hi hL dL_law_469 dL_law_470 dL_law_472 dL_law_473 dL_law_474 ?_
  refine law_rd (pc := 475) X hX hbl hS hl 2 (by decide) (by decide) hi hL dL_law_475 dL_law_476 dL_law_478 dL_law_479 dL_law_480 ?_
  refine law_rd (pc := 481) X hX hbl hS hl 3 (by decide) (by decide) hi hL dL_law_481 dL_law_482 dL_law_484 dL_law_485 dL_law_486 ?_
  refine law_callE (pc := 487) (ci := 12) (As := [.int (xs (i + 1)), .int (xs (i + 2)), .int (xs (i + 3))]) (rs := []) X hS (E12_downV hS.1.2.1 hq.2.1 hS.2.1.2.1 (xs (i + 1)) (xs (i + 2)) (xs (i + 3))) vL_56 rfl hS.2.1.2.1 (by decide) rfl ⟨hM, hN⟩ rfl hl.1 rfl (Nat.le_of_ble_eq_true rfl) ⟨Nat.le_of_ble_eq_true rfl, Nat.le_of_ble_eq_true rfl⟩ ⟨by omega, by omega⟩ dL_law_487 rfl rfl (fun x9 H locs hp hun hS9 => ?_)
  obtain ⟨hx9, hN9⟩ := hp
  obtain rfl := Value.int.inj hx9
  have hC := RC1.keep hC hS.1.1 hS.2.1.1 hun rfl
  have hM := RR1.keep hM hS.1.1 hS.2.1.2.1 hun rfl
  have hD := RCV.keep hD hq.2.1 hS.1.1 hS9.1.1 hS.2.1.1 hun rfl
  have hE := RCP.keep hE hq.2.2 hS.1.1 hS9.1.1 hS.2.1.1 hun rfl
  have hO := RRP.keep hO hS.1.1 hS.2.1.2.1 hun rfl rfl
  have hY := RMM.keep hY hS.2.1.2.1 hun rfl
  have hJ := RYK.keep hJ hS.1.1 hS.2.1.1 hun rfl
  have hN := hN9
  have hS := hS9
  refine lv_pop (pc := 490) hx hb dL_law_490 rfl ?_
  refine lv_goto (tgt := 1864) (pc := 491) hx hb dL_law_491 rfl ?_
  exact KK _ _ _ _ _ _ q _ _ (by omega) (by omega) hS hq hC hD hE hM hN hO hY hJ (plx_vnew hZ (fun _ => rfl) (fun _ h => nl_down h)) (lv_sub hl [0, 1, 2, 3, 4] rfl)

set_option maxHeartbeats 4000000 in
set_option maxRecDepth 100000 in
theorem law_7 {p : Program} {e : Env} {s : State} {m : MethodId} {below : List Frame} {meth : Method} {c : Code} {l : Launch} {b L i C S x0 m0 o0 : Nat} {xs : Nat → Int32} {g : GG} {Γ : Nat → Nat} {H : Heap} {locs : List Loc} {q : RLT} {V : Nat → VV} {P : Nat → PP} {ls : Array Slot} {cells slots : Nat} (X : CTX p l m meth c cL_law 7 s #[Value.ref b] RL g (AL s)) (hr : meth.sig.returnType = ret) (hX : va_X b L xs s s.heap) (hbl : b < s.heap.size) (hL : L ≤ 3072) (hi : i + 6 ≤ L) (hS : LWS g x0 m0 o0 s Γ H locs) (hl : lv_has ls 7 (LO b x0 m0 o0 i)) (hc : cells + 13 ≤ C) (hs : slots + 380 ≤ S) (hcC : C ≤ 601024) (hSl : S ≤ 7293034) (hq : RLW q) (hC : R1c g x0 q H) (hD : RCV g x0 q.2.2.1 V H) (hM : R1m g m0 q H) (hN : RRV g m0 q.2.2.1 V H) (hE : RCP g x0 q.2.2.2 P H) (hO : RRP g m0 q.2.2.2 P H) (hY : RMM g m0 H) (hJ : RYK g x0 H) (hZ : PLX q.2.2.1 V q.2.2.2 P) (KK : LGP p l e s m b below meth c g x0 m0 o0 i C S) : W p l e room_1 s m #[Value.ref b] below meth c H locs cells slots (lw_Z below #[Value.ref b] s) (F0 m 494 ls []) := by
  have hx := X.1
  have hb := X.2.1
  refine lv_aload_n (pc := 494) hx hb dL_law_494 rfl (lv_at hl 1 rfl) ?_
  refine law_rd (pc := 495) X hX hbl hS hl 1 (by decide) (by decide) hi hL dL_law_495 dL_law_496 dL_law_498 dL_law_499 dL_law_500 ?_
  refine law_rd (pc := 501) X hX hbl hS hl 2 (by decide) (by decide) hi hL dL_law_501 dL_law_502 dL_law_504 dL_law_505 dL_law_506 ?_
  refine law_rd (pc := 507) X hX hbl hS hl 3 (by decide) (by decide) hi hL dL_law_507 dL_law_508 dL_law_510 dL_law_511 dL_law_512 ?_
  refine law_rd (pc := 513) X hX hbl hS hl 4 (by decide) (by decide) hi hL dL_law_513 dL_law_514 dL_law_516 dL_law_517 dL_law_518 ?_
  refine law_callU (pc := 519) (ci := 11) (As := [.int (xs (i + 1)), .int (xs (i + 2)), .int (xs (i + 3)), .int (xs (i + 4))]) (rs := []) X hS (SX11_may_0 l g) vL_57 rfl hS.2.1.1 (by decide) rfl ⟨av_ref hS.2.1.1 (by decide), avi_top _, avi_top _, avi_top _, avi_top _, trivial⟩ rfl rfl hl.1 rfl (Nat.le_of_ble_eq_true rfl) ⟨Nat.le_of_ble_eq_true rfl, Nat.le_of_ble_eq_true rfl⟩ ⟨by omega, by omega⟩ dL_law_519 rfl rfl (fun x9 H locs hun hS9 => ?_)
  have hC := RC1.keep hC hS.1.1 hS.2.1.1 hun rfl
  have hM := RR1.keep hM hS.1.1 hS.2.1.2.1 hun rfl
  have hD := RCV.keep hD hq.2.1 hS.1.1 hS9.1.1 hS.2.1.1 hun rfl
  have hN := RRV.keep hN hS.1.1 hS.2.1.2.1 hun rfl rfl
  have hE := RCP.keep hE hq.2.2 hS.1.1 hS9.1.1 hS.2.1.1 hun rfl
  have hO := RRP.keep hO hS.1.1 hS.2.1.2.1 hun rfl rfl
  have hY := RMM.keep hY hS.2.1.2.1 hun rfl
  have hJ := RYK.keep hJ hS.1.1 hS.2.1.1 hun rfl
  have hS := hS9
  refine lv_pop (pc := 522) hx hb dL_law_522 rfl ?_
  refine lv_aload_n (pc := 523) hx hb dL_law_523 rfl (lv_at hl 2 rfl) ?_
  refine law_rd (pc := 524) X hX hbl hS hl 1 (by decide) (by decide) hi hL dL_law_524 dL_law_525 dL_law_527 dL_law_528 dL_law_529 ?_
  refine law_rd (pc := 530) X hX hbl hS hl 2 (by decide) (by decide) hi hL dL_law_530 dL_law_531 dL_law_533 dL_law_534 dL_law_535 ?_
  refine law_rd (pc := 536) X hX hbl hS hl 3 (by decide) (by decide) hi hL dL_law_536 dL_law_537 dL_law_539 dL_law_540 dL_law_541 ?_
  refine law_rd (pc := 542) X hX hbl hS hl 4 (by decide) (by decide) hi hL dL_law_542 dL_law_543 dL_law_545 dL_law_546 dL_law_547 ?_
  refine law_callU (pc := 548) (ci := 12) (As := [.int (xs (i + 1)), .int (xs (i + 2)), .int (xs (i + 3)), .int (xs (i + 4))]) (rs := []) X hS (SX12_may_0 l g) vL_61 rfl hS.2.1.2.1 (by decide) rfl ⟨av_ref hS.2.1.2.1 (by decide), avi_top _, avi_top _, avi_top _, avi_top _, trivial⟩ rfl rfl hl.1 rfl (Nat.le_of_ble_eq_true rfl) ⟨Nat.le_of_ble_eq_true rfl, Nat.le_of_ble_eq_true rfl⟩ ⟨by omega, by omega⟩ dL_law_548 rfl rfl (fun x9 H locs hun hS9 => ?_)
  have hC := RC1.keep hC hS.1.1 hS.2.1.1 hun rfl
  have hM := RR1.keep hM hS.1.1 hS.2.1.2.1 hun rfl
  have hD := RCV.keep hD hq.2.1 hS.1.1 hS9.1.1 hS.2.1.1 hun rfl
  have hN := RRV.keep hN hS.1.1 hS.2.1.2.1 hun rfl rfl
  have hE := RCP.keep hE hq.2.2 hS.1.1 hS9.1.1 hS.2.1.1 hun rfl
  have hO := RRP.keep hO hS.1.1 hS.2.1.2.1 hun rfl rfl
  have hY := RMM.keep hY hS.2.1.2.1 hun rfl
  have hJ := RYK.keep hJ hS.1.1 hS.2.1.1 hun rfl
  have hS := hS9
  refine lv_pop (pc := 551) hx hb dL_law_551 rfl ?_
  refine lv_goto (tgt := 1864) (pc := 552) hx hb dL_law_552 rfl ?_
  exact KK _ _ _ _ _ _ q _ _ (by omega) (by omega) hS hq hC hD hE hM hN hO hY hJ hZ (lv_sub hl [0, 1, 2, 3, 4] rfl)

set_option maxHeartbeats 4000000 in
set_option maxRecDepth 100000 in
theorem law_8 {p : Program} {e : Env} {s : State} {m : MethodId} {below : List Frame} {meth : Method} {c : Code} {l : Launch} {b L i C S x0 m0 o0 : Nat} {xs : Nat → Int32} {g : GG} {Γ : Nat → Nat} {H : Heap} {locs : List Loc} {q : RLT} {V : Nat → VV} {P : Nat → PP} {ls : Array Slot} {cells slots : Nat} (X : CTX p l m meth c cL_law 7 s #[Value.ref b] RL g (AL s)) (hr : meth.sig.returnType = ret) (hX : va_X b L xs s s.heap) (hbl : b < s.heap.size) (hL : L ≤ 3072) (hi : i + 6 ≤ L) (hS : LWS g x0 m0 o0 s Γ H locs) (hl : lv_has ls 7 (LO b x0 m0 o0 i)) (hc : cells + 13 ≤ C) (hs : slots + 380 ≤ S) (hcC : C ≤ 601024) (hSl : S ≤ 7293034) (hq : RLW q) (hC : R1c g x0 q H) (hD : RCV g x0 q.2.2.1 V H) (hM : R1m g m0 q H) (hN : RRV g m0 q.2.2.1 V H) (hE : RCP g x0 q.2.2.2 P H) (hO : RRP g m0 q.2.2.2 P H) (hY : RMM g m0 H) (hJ : RYK g x0 H) (hZ : PLX q.2.2.1 V q.2.2.2 P) (KK : LGP p l e s m b below meth c g x0 m0 o0 i C S) : W p l e room_1 s m #[Value.ref b] below meth c H locs cells slots (lw_Z below #[Value.ref b] s) (F0 m 555 ls []) := by
  have hx := X.1
  have hb := X.2.1
  refine lv_aload_n (pc := 555) hx hb dL_law_555 rfl (lv_at hl 1 rfl) ?_
  refine law_rd (pc := 556) X hX hbl hS hl 1 (by decide) (by decide) hi hL dL_law_556 dL_law_557 dL_law_559 dL_law_560 dL_law_561 ?_
  refine law_gcallE (pc := 562) (ci := 11) (As := [.int (xs (i + 1))]) (rs := []) X hS (EG.and (E11_plan (m0 := m0) hS.1.2.1 hq.2.1 hq.2.2 hS.2.1.1 (xs (i + 1))) (EG.and (E11_planV (m0 := m0) (V := V) (n := q.1) (fb := q.2.1) hS.1.2.1 hq.2.1 hq.2.2 hS.2.1.1 (xs (i + 1))) (EG.and (E11_planP (m0 := m0) (n := q.1) (fb := q.2.1) hS.1.2.1 hq.2.1 hq.2.2 hZ.1 hS.2.1.1 (xs (i + 1))) (E11_planY (m0 := m0) (n := q.1) (fb := q.2.1) hS.1.2.1 hq.2.1 hq.2.2 hZ.1 hS.2.1.1 (xs (i + 1)))))) vL_62 rfl hS.2.1.1 (by decide) rfl ⟨hC, ⟨hC, hD⟩, ⟨hC, hD, hE⟩, hC, hD, hE, hJ⟩ rfl hl.1 rfl (Nat.le_of_ble_eq_true rfl) ⟨Nat.le_of_ble_eq_true rfl, Nat.le_of_ble_eq_true rfl⟩ ⟨Nat.le_trans (show cells + 8 ≤ C by omega) hcC, Nat.le_trans (show slots + 289 ≤ S by omega) hSl⟩ dL_law_562 (fun x9 Γ1 H locs hp hS9 => ?_)
  obtain ⟨⟨hp1, hp2⟩, ⟨hD9, hO9⟩, ⟨hE9, hO8⟩, hJ9⟩ := hp
  obtain ⟨hx9, hN9⟩ := plQ_c hq hp1
  obtain rfl := Value.int.inj hx9
  have hM := RR1.same hM hS.1.1 hS.2.1.2.1 hp2
  have hN := RRV.same hN hS.1.1 hS.2.1.2.1 hO9
  have hO := RRP.same hO hS.1.1 hS.2.1.2.1 hO8
  have hY := RMM.same hY (hO8 m0 (Or.inl hS.2.1.2.1))
  have hC := hN9
  have hD := hD9
  have hE := hE9
  have hJ := hJ9
  have hS := hS9
  refine lv_pop (pc := 565) hx hb dL_law_565 rfl ?_
  refine lv_aload_n (pc := 566) hx hb dL_law_566 rfl (lv_at hl 2 rfl) ?_
  refine law_rd (pc := 567) X hX hbl hS hl 1 (by decide) (by decide) hi hL dL_law_567 dL_law_568 dL_law_570 dL_law_571 dL_law_572 ?_
  refine law_callE (pc := 573) (ci := 12) (As := [.int (xs (i + 1))]) (rs := []) X hS (EX.and (E12_plan hS.1.2.1 hq.2.1 hq.2.2 hS.2.1.2.1 (xs (i + 1))) (E12_planP (n := q.1) (fb := q.2.1) hS.1.2.1 hq.2.1 hq.2.2 hS.2.1.2.1 (xs (i + 1)))) vL_66 rfl hS.2.1.2.1 (by decide) rfl ⟨hM, hM, hO⟩ rfl hl.1 rfl (Nat.le_of_ble_eq_true rfl) ⟨Nat.le_of_ble_eq_true rfl, Nat.le_of_ble_eq_true rfl⟩ ⟨by omega, by omega⟩ dL_law_573 rfl rfl (fun x9 H locs hp hun hS9 => ?_)
  obtain ⟨hp1, hO8⟩ := hp
  obtain ⟨hx9, hN9⟩ := plQ_m hq hp1
  obtain rfl := Value.int.inj hx9
  have hC := RC1.keep hC hS.1.1 hS.2.1.1 hun rfl
  have hD := RCV.keep hD hq.2.1 hS.1.1 hS9.1.1 hS.2.1.1 hun rfl
  have hN := RRV.keep hN hS.1.1 hS.2.1.2.1 hun rfl rfl
  have hE := RCP.keep hE (pNum_le hq.2.2) hS.1.1 hS9.1.1 hS.2.1.1 hun rfl
  have hY := RMM.keep hY hS.2.1.2.1 hun rfl
  have hJ := RYK.keep hJ hS.1.1 hS.2.1.1 hun rfl
  have hM := hN9
  have hO := hO8
  have hS := hS9
  refine lv_pop (pc := 576) hx hb dL_law_576 rfl ?_
  refine lv_goto (tgt := 1864) (pc := 577) hx hb dL_law_577 rfl ?_
  exact KK _ _ _ _ _ _ (plQ q (xs (i + 1))) V (pNew q.2.2.1 q.2.2.2 P (xs (i + 1))) (by omega) (by omega) hS (plQ_w hq) hC (by rw [plQ_nv]; exact hD) (by rw [plQ_np]; exact hE) hM (by rw [plQ_nv]; exact hN) (by rw [plQ_np]; exact hO) hY hJ (by rw [plQ_nv, plQ_np]; exact plx_plan hq.2.1 hZ) (lv_sub hl [0, 1, 2, 3, 4] rfl)

set_option maxHeartbeats 4000000 in
set_option maxRecDepth 100000 in
theorem law_9 {p : Program} {e : Env} {s : State} {m : MethodId} {below : List Frame} {meth : Method} {c : Code} {l : Launch} {b L i C S x0 m0 o0 : Nat} {xs : Nat → Int32} {g : GG} {Γ : Nat → Nat} {H : Heap} {locs : List Loc} {q : RLT} {V : Nat → VV} {P : Nat → PP} {ls : Array Slot} {cells slots : Nat} (X : CTX p l m meth c cL_law 7 s #[Value.ref b] RL g (AL s)) (hr : meth.sig.returnType = ret) (hX : va_X b L xs s s.heap) (hbl : b < s.heap.size) (hL : L ≤ 3072) (hi : i + 6 ≤ L) (hS : LWS g x0 m0 o0 s Γ H locs) (hl : lv_has ls 7 (LO b x0 m0 o0 i)) (hc : cells + 13 ≤ C) (hs : slots + 380 ≤ S) (hcC : C ≤ 601024) (hSl : S ≤ 7293034) (hq : RLW q) (hC : R1c g x0 q H) (hD : RCV g x0 q.2.2.1 V H) (hM : R1m g m0 q H) (hN : RRV g m0 q.2.2.1 V H) (hE : RCP g x0 q.2.2.2 P H) (hO : RRP g m0 q.2.2.2 P H) (hY : RMM g m0 H) (hJ : RYK g x0 H) (hZ : PLX q.2.2.1 V q.2.2.2 P) (KK : LGP p l e s m b below meth c g x0 m0 o0 i C S) : W p l e room_1 s m #[Value.ref b] below meth c H locs cells slots (lw_Z below #[Value.ref b] s) (F0 m 580 ls []) := by
  have hx := X.1
  have hb := X.2.1
  refine lv_aload_n (pc := 580) hx hb dL_law_580 rfl (lv_at hl 1 rfl) ?_
  refine law_rd (pc := 581) X hX hbl hS hl 1 (by decide) (by decide) hi hL dL_law_581 dL_law_582 dL_law_584 dL_law_585 dL_law_586 ?_
  refine law_rd (pc := 587) X hX hbl hS hl 2 (by decide) (by decide) hi hL dL_law_587 dL_law_588 dL_law_590 dL_law_591 dL_law_592 ?_
  refine law_rd (pc := 593) X hX hbl hS hl 3 (by decide) (by decide) hi hL dL_law_593 dL_law_594 dL_law_596 dL_law_597 dL_law_598 ?_
  refine law_rd (pc := 599) X hX hbl hS hl 4 (by decide) (by decide) hi hL dL_law_599 dL_law_600 dL_law_602 dL_law_603 dL_law_604 ?_
  refine law_rd (pc := 605) X hX hbl hS hl 5 (by decide) (by decide) hi hL dL_law_605 dL_law_606 dL_law_608 dL_law_609 dL_law_610 ?_
  refine law_callE (pc := 611) (ci := 11) (As := [.int (xs (i + 1)), .int (xs (i + 2)), .int (xs (i + 3)), .int (xs (i + 4)), .int (xs (i + 5))]) (rs := []) X hS (E11_callP (n := q.1) (fb := q.2.1) hS.1.2.1 hq.2.1 hq.2.2 hZ.1 hS.2.1.1 (xs (i + 1)) (xs (i + 2)) (xs (i + 3)) (xs (i + 4)) (xs (i + 5))) vL_67 rfl hS.2.1.1 (by decide) rfl ⟨hC, hD, hE⟩ rfl hl.1 rfl (Nat.le_of_ble_eq_true rfl) ⟨Nat.le_of_ble_eq_true rfl, Nat.le_of_ble_eq_true rfl⟩ ⟨by omega, by omega⟩ dL_law_611 rfl rfl (fun x9 H locs hp hun hS9 => ?_)
  obtain ⟨hx9, hN9⟩ := hp
  obtain rfl := Value.int.inj hx9
  have hC := RC1.keep hC hS.1.1 hS.2.1.1 hun rfl
  have hM := RR1.keep hM hS.1.1 hS.2.1.2.1 hun rfl
  have hD := RCV.keep hD hq.2.1 hS.1.1 hS9.1.1 hS.2.1.1 hun rfl
  have hN := RRV.keep hN hS.1.1 hS.2.1.2.1 hun rfl rfl
  have hO := RRP.keep hO hS.1.1 hS.2.1.2.1 hun rfl rfl
  have hY := RMM.keep hY hS.2.1.2.1 hun rfl
  have hJ := RYK.keep hJ hS.1.1 hS.2.1.1 hun rfl
  have hE := hN9
  have hS := hS9
  refine lv_pop (pc := 614) hx hb dL_law_614 rfl ?_
  refine lv_aload_n (pc := 615) hx hb dL_law_615 rfl (lv_at hl 2 rfl) ?_
  refine law_rd (pc := 616) X hX hbl hS hl 1 (by decide) (by decide) hi hL dL_law_616 dL_law_617 dL_law_619 dL_law_620 dL_law_621 ?_
  refine law_rd (pc := 622) X hX hbl hS hl 2 (by decide) (by decide) hi hL dL_law_622 dL_law_623 dL_law_625 dL_law_626 dL_law_627 ?_
  refine law_rd (pc := 628) X hX hbl hS hl 3 (by decide) (by decide) hi hL dL_law_628 dL_law_629 dL_law_631 dL_law_632 dL_law_633 ?_
  refine law_rd (pc := 634) X hX hbl hS hl 4 (by decide) (by decide) hi hL dL_law_634 dL_law_635 dL_law_637 dL_law_638 dL_law_639 ?_
  refine law_rd (pc := 640) X hX hbl hS hl 5 (by decide) (by decide) hi hL dL_law_640 dL_law_641 dL_law_643 dL_law_644 dL_law_645 ?_
  refine law_callE (pc := 646) (ci := 12) (As := [.int (xs (i + 1)), .int (xs (i + 2)), .int (xs (i + 3)), .int (xs (i + 4)), .int (xs (i + 5))]) (rs := []) X hS (E12_callP (n := q.1) (fb := q.2.1) hS.1.2.1 hq.2.1 hq.2.2 hZ.1 hS.2.1.2.1 (xs (i + 1)) (xs (i + 2)) (xs (i + 3)) (xs (i + 4)) (xs (i + 5))) vL_70 rfl hS.2.1.2.1 (by decide) rfl ⟨hM, hN, hO⟩ rfl hl.1 rfl (Nat.le_of_ble_eq_true rfl) ⟨Nat.le_of_ble_eq_true rfl, Nat.le_of_ble_eq_true rfl⟩ ⟨by omega, by omega⟩ dL_law_646 rfl rfl (fun x9 H locs hp hun hS9 => ?_)
  obtain ⟨hx9, hN9⟩ := hp
  obtain rfl := Value.int.inj hx9
  have hC := RC1.keep hC hS.1.1 hS.2.1.1 hun rfl
  have hM := RR1.keep hM hS.1.1 hS.2.1.2.1 hun rfl
  have hD := RCV.keep hD hq.2.1 hS.1.1 hS9.1.1 hS.2.1.1 hun rfl
  have hN := RRV.keep hN hS.1.1 hS.2.1.2.1 hun rfl rfl
  have hE := RCP.keep hE hq.2.2 hS.1.1 hS9.1.1 hS.2.1.1 hun rfl
  have hY := RMM.keep hY hS.2.1.2.1 hun rfl
  have hJ := RYK.keep hJ hS.1.1 hS.2.1.1 hun rfl
  have hO := hN9
  have hS := hS9
  refine lv_pop (pc := 649) hx hb dL_law_649 rfl ?_
  refine lv_goto (tgt := 1864) (pc := 650) hx hb dL_law_650 rfl ?_
  exact KK _ _ _ _ _ _ q _ _ (by omega) (by omega) hS hq hC hD hE hM hN hO hY hJ (plx_call hZ) (lv_sub hl [0, 1, 2, 3, 4] rfl)

set_option maxHeartbeats 4000000 in
set_option maxRecDepth 100000 in
theorem law_10 {p : Program} {e : Env} {s : State} {m : MethodId} {below : List Frame} {meth : Method} {c : Code} {l : Launch} {b L i C S x0 m0 o0 : Nat} {xs : Nat → Int32} {g : GG} {Γ : Nat → Nat} {H : Heap} {locs : List Loc} {q : RLT} {V : Nat → VV} {P : Nat → PP} {ls : Array Slot} {cells slots : Nat} (X : CTX p l m meth c cL_law 7 s #[Value.ref b] RL g (AL s)) (hr : meth.sig.returnType = ret) (hX : va_X b L xs s s.heap) (hbl : b < s.heap.size) (hL : L ≤ 3072) (hi : i + 6 ≤ L) (hS : LWS g x0 m0 o0 s Γ H locs) (hl : lv_has ls 7 (LO b x0 m0 o0 i)) (hc : cells + 13 ≤ C) (hs : slots + 380 ≤ S) (hcC : C ≤ 601024) (hSl : S ≤ 7293034) (hq : RLW q) (hC : R1c g x0 q H) (hD : RCV g x0 q.2.2.1 V H) (hM : R1m g m0 q H) (hN : RRV g m0 q.2.2.1 V H) (hE : RCP g x0 q.2.2.2 P H) (hO : RRP g m0 q.2.2.2 P H) (hY : RMM g m0 H) (hJ : RYK g x0 H) (hZ : PLX q.2.2.1 V q.2.2.2 P) (KK : LGP p l e s m b below meth c g x0 m0 o0 i C S) : W p l e room_1 s m #[Value.ref b] below meth c H locs cells slots (lw_Z below #[Value.ref b] s) (F0 m 653 ls []) := by
  have hx := X.1
  have hb := X.2.1
  refine lv_aload_n (pc := 653) hx hb dL_law_653 rfl (lv_at hl 1 rfl) ?_
  refine law_rd (pc := 654) X hX hbl hS hl 1 (by decide) (by decide) hi hL dL_law_654 dL_law_655 dL_law_657 dL_law_658 dL_law_659 ?_
  refine law_rd (pc := 660) X hX hbl hS hl 2 (by decide) (by decide) hi hL dL_law_660 dL_law_661 dL_law_663 dL_law_664 dL_law_665 ?_
  refine law_callU (pc := 666) (ci := 11) (As := [.int (xs (i + 1)), .int (xs (i + 2))]) (rs := []) X hS (SX11_lawful_0 l g) vL_71 rfl hS.2.1.1 (by decide) rfl ⟨av_ref hS.2.1.1 (by decide), avi_top _, avi_top _, trivial⟩ rfl rfl hl.1 rfl (Nat.le_of_ble_eq_true rfl) ⟨Nat.le_of_ble_eq_true rfl, Nat.le_of_ble_eq_true rfl⟩ ⟨by omega, by omega⟩ dL_law_666 rfl rfl (fun x9 H locs hun hS9 => ?_)
  have hC := RC1.keep hC hS.1.1 hS.2.1.1 hun rfl
  have hM := RR1.keep hM hS.1.1 hS.2.1.2.1 hun rfl
  have hD := RCV.keep hD hq.2.1 hS.1.1 hS9.1.1 hS.2.1.1 hun rfl
  have hN := RRV.keep hN hS.1.1 hS.2.1.2.1 hun rfl rfl
  have hE := RCP.keep hE hq.2.2 hS.1.1 hS9.1.1 hS.2.1.1 hun rfl
  have hO := RRP.keep hO hS.1.1 hS.2.1.2.1 hun rfl rfl
  have hY := RMM.keep hY hS.2.1.2.1 hun rfl
  have hJ := RYK.keep hJ hS.1.1 hS.2.1.1 hun rfl
  have hS := hS9
  refine lv_pop (pc := 669) hx hb dL_law_669 rfl ?_
  refine lv_aload_n (pc := 670) hx hb dL_law_670 rfl (lv_at hl 2 rfl) ?_
  refine law_rd (pc := 671) X hX hbl hS hl 1 (by decide) (by decide) hi hL dL_law_671 dL_law_672 dL_law_674 dL_law_675 dL_law_676 ?_
  refine law_rd (pc := 677) X hX hbl hS hl 2 (by decide) (by decide) hi hL dL_law_677 dL_law_678 dL_law_680 dL_law_681 dL_law_682 ?_
  refine law_callU (pc := 683) (ci := 12) (As := [.int (xs (i + 1)), .int (xs (i + 2))]) (rs := []) X hS (SX12_lawful_0 l g) vL_74 rfl hS.2.1.2.1 (by decide) rfl ⟨av_ref hS.2.1.2.1 (by decide), avi_top _, avi_top _, trivial⟩ rfl rfl hl.1 rfl (Nat.le_of_ble_eq_true rfl) ⟨Nat.le_of_ble_eq_true rfl, Nat.le_of_ble_eq_true rfl⟩ ⟨by omega, by omega⟩ dL_law_683 rfl rfl (fun x9 H locs hun hS9 => ?_)
  have hC := RC1.keep hC hS.1.1 hS.2.1.1 hun rfl
  have hM := RR1.keep hM hS.1.1 hS.2.1.2.1 hun rfl
  have hD := RCV.keep hD hq.2.1 hS.1.1 hS9.1.1 hS.2.1.1 hun rfl
  have hN := RRV.keep hN hS.1.1 hS.2.1.2.1 hun rfl rfl
  have hE := RCP.keep hE hq.2.2 hS.1.1 hS9.1.1 hS.2.1.1 hun rfl
  have hO := RRP.keep hO hS.1.1 hS.2.1.2.1 hun rfl rfl
  have hY := RMM.keep hY hS.2.1.2.1 hun rfl
  have hJ := RYK.keep hJ hS.1.1 hS.2.1.1 hun rfl
  have hS := hS9
  refine lv_pop (pc := 686) hx hb dL_law_686 rfl ?_
  refine lv_goto (tgt := 1864) (pc := 687) hx hb dL_law_687 rfl ?_
  exact KK _ _ _ _ _ _ q _ _ (by omega) (by omega) hS hq hC hD hE hM hN hO hY hJ hZ (lv_sub hl [0, 1, 2, 3, 4] rfl)

set_option maxHeartbeats 4000000 in
set_option maxRecDepth 100000 in
theorem law_11 {p : Program} {e : Env} {s : State} {m : MethodId} {below : List Frame} {meth : Method} {c : Code} {l : Launch} {b L i C S x0 m0 o0 : Nat} {xs : Nat → Int32} {g : GG} {Γ : Nat → Nat} {H : Heap} {locs : List Loc} {q : RLT} {V : Nat → VV} {P : Nat → PP} {ls : Array Slot} {cells slots : Nat} (X : CTX p l m meth c cL_law 7 s #[Value.ref b] RL g (AL s)) (hr : meth.sig.returnType = ret) (hX : va_X b L xs s s.heap) (hbl : b < s.heap.size) (hL : L ≤ 3072) (hi : i + 6 ≤ L) (hS : LWS g x0 m0 o0 s Γ H locs) (hl : lv_has ls 7 (LO b x0 m0 o0 i)) (hc : cells + 13 ≤ C) (hs : slots + 380 ≤ S) (hcC : C ≤ 601024) (hSl : S ≤ 7293034) (hq : RLW q) (hC : R1c g x0 q H) (hD : RCV g x0 q.2.2.1 V H) (hM : R1m g m0 q H) (hN : RRV g m0 q.2.2.1 V H) (hE : RCP g x0 q.2.2.2 P H) (hO : RRP g m0 q.2.2.2 P H) (hY : RMM g m0 H) (hJ : RYK g x0 H) (hZ : PLX q.2.2.1 V q.2.2.2 P) (KK : LGP p l e s m b below meth c g x0 m0 o0 i C S) : W p l e room_1 s m #[Value.ref b] below meth c H locs cells slots (lw_Z below #[Value.ref b] s) (F0 m 690 ls []) := by
  have hx := X.1
  have hb := X.2.1
  refine lv_aload_n (pc := 690) hx hb dL_law_690 rfl (lv_at hl 1 rfl) ?_
  refine law_rd (pc := 691) X hX hbl hS hl 1 (by decide) (by decide) hi hL dL_law_691 dL_law_692 dL_law_694 dL_law_695 dL_law_696 ?_
  refine law_callU (pc := 697) (ci := 11) (As := [.int (xs (i + 1))]) (rs := []) X hS (SX11_unlawful_0 l g) vL_75 rfl hS.2.1.1 (by decide) rfl ⟨av_ref hS.2.1.1 (by decide), avi_top _, trivial⟩ rfl rfl hl.1 rfl (Nat.le_of_ble_eq_true rfl) ⟨Nat.le_of_ble_eq_true rfl, Nat.le_of_ble_eq_true rfl⟩ ⟨by omega, by omega⟩ dL_law_697 rfl rfl (fun x9 H locs hun hS9 => ?_)
  have hC := RC1.keep hC hS.1.1 hS.2.1.1 hun rfl
  have hM := RR1.keep hM hS.1.1 hS.2.1.2.1 hun rfl
  have hD := RCV.keep hD hq.2.1 hS.1.1 hS9.1.1 hS.2.1.1 hun rfl
  have hN := RRV.keep hN hS.1.1 hS.2.1.2.1 hun rfl rfl
  have hE := RCP.keep hE hq.2.2 hS.1.1 hS9.1.1 hS.2.1.1 hun rfl
  have hO := RRP.keep hO hS.1.1 hS.2.1.2.1 hun rfl rfl
  have hY := RMM.keep hY hS.2.1.2.1 hun rfl
  have hJ := RYK.keep hJ hS.1.1 hS.2.1.1 hun rfl
  have hS := hS9
  refine lv_pop (pc := 700) hx hb dL_law_700 rfl ?_
  refine lv_aload_n (pc := 701) hx hb dL_law_701 rfl (lv_at hl 2 rfl) ?_
  refine law_rd (pc := 702) X hX hbl hS hl 1 (by decide) (by decide) hi hL dL_law_702 dL_law_703 dL_law_705 dL_law_706 dL_law_707 ?_
  refine law_callU (pc := 708) (ci := 12) (As := [.int (xs (i + 1))]) (rs := []) X hS (SX12_unlawful_0 l g) vL_78 rfl hS.2.1.2.1 (by decide) rfl ⟨av_ref hS.2.1.2.1 (by decide), avi_top _, trivial⟩ rfl rfl hl.1 rfl (Nat.le_of_ble_eq_true rfl) ⟨Nat.le_of_ble_eq_true rfl, Nat.le_of_ble_eq_true rfl⟩ ⟨by omega, by omega⟩ dL_law_708 rfl rfl (fun x9 H locs hun hS9 => ?_)
  have hC := RC1.keep hC hS.1.1 hS.2.1.1 hun rfl
  have hM := RR1.keep hM hS.1.1 hS.2.1.2.1 hun rfl
  have hD := RCV.keep hD hq.2.1 hS.1.1 hS9.1.1 hS.2.1.1 hun rfl
  have hN := RRV.keep hN hS.1.1 hS.2.1.2.1 hun rfl rfl
  have hE := RCP.keep hE hq.2.2 hS.1.1 hS9.1.1 hS.2.1.1 hun rfl
  have hO := RRP.keep hO hS.1.1 hS.2.1.2.1 hun rfl rfl
  have hY := RMM.keep hY hS.2.1.2.1 hun rfl
  have hJ := RYK.keep hJ hS.1.1 hS.2.1.1 hun rfl
  have hS := hS9
  refine lv_pop (pc := 711) hx hb dL_law_711 rfl ?_
  refine lv_goto (tgt := 1864) (pc := 712) hx hb dL_law_712 rfl ?_
  exact KK _ _ _ _ _ _ q _ _ (by omega) (by omega) hS hq hC hD hE hM hN hO hY hJ hZ (lv_sub hl [0, 1, 2, 3, 4] rfl)

set_option maxHeartbeats 4000000 in
set_option maxRecDepth 100000 in
theorem law_12 {p : Program} {e : Env} {s : State} {m : MethodId} {below : List Frame} {meth : Method} {c : Code} {l : Launch} {b L i C S x0 m0 o0 : Nat} {xs : Nat → Int32} {g : GG} {Γ : Nat → Nat} {H : Heap} {locs : List Loc} {q : RLT} {V : Nat → VV} {P : Nat → PP} {ls : Array Slot} {cells slots : Nat} (X : CTX p l m meth c cL_law 7 s #[Value.ref b] RL g (AL s)) (hr : meth.sig.returnType = ret) (hX : va_X b L xs s s.heap) (hbl : b < s.heap.size) (hL : L ≤ 3072) (hi : i + 6 ≤ L) (hS : LWS g x0 m0 o0 s Γ H locs) (hl : lv_has ls 7 (LO b x0 m0 o0 i)) (hc : cells + 13 ≤ C) (hs : slots + 380 ≤ S) (hcC : C ≤ 601024) (hSl : S ≤ 7293034) (hq : RLW q) (hC : R1c g x0 q H) (hD : RCV g x0 q.2.2.1 V H) (hM : R1m g m0 q H) (hN : RRV g m0 q.2.2.1 V H) (hE : RCP g x0 q.2.2.2 P H) (hO : RRP g m0 q.2.2.2 P H) (hY : RMM g m0 H) (hJ : RYK g x0 H) (hZ : PLX q.2.2.1 V q.2.2.2 P) (KK : LGP p l e s m b below meth c g x0 m0 o0 i C S) : W p l e room_1 s m #[Value.ref b] below meth c H locs cells slots (lw_Z below #[Value.ref b] s) (F0 m 715 ls []) := by
  have hx := X.1
  have hb := X.2.1
  refine lv_aload_n (pc := 715) hx hb dL_law_715 rfl (lv_at hl 1 rfl) ?_
  refine law_rd (pc := 716) X hX hbl hS hl 1 (by decide) (by decide) hi hL dL_law_716 dL_law_717 dL_law_719 dL_law_720 dL_law_721 ?_
  refine law_rd (pc := 722) X hX hbl hS hl 2 (by decide) (by decide) hi hL dL_law_722 dL_law_723 dL_law_725 dL_law_726 dL_law_727 ?_
  refine law_rd (pc := 728) X hX hbl hS hl 3 (by decide) (by decide) hi hL dL_law_728 dL_law_729 dL_law_731 dL_law_732 dL_law_733 ?_
  refine law_callU (pc := 734) (ci := 11) (As := [.int (xs (i + 1)), .int (xs (i + 2)), .int (xs (i + 3))]) (rs := []) X hS (SX11_known_0 l g) vL_79 rfl hS.2.1.1 (by decide) rfl ⟨av_ref hS.2.1.1 (by decide), avi_top _, avi_top _, avi_top _, trivial⟩ rfl rfl hl.1 rfl (Nat.le_of_ble_eq_true rfl) ⟨Nat.le_of_ble_eq_true rfl, Nat.le_of_ble_eq_true rfl⟩ ⟨by omega, by omega⟩ dL_law_734 rfl rfl (fun x9 H locs hun hS9 => ?_)
  have hC := RC1.keep hC hS.1.1 hS.2.1.1 hun rfl
  have hM := RR1.keep hM hS.1.1 hS.2.1.2.1 hun rfl
  have hD := RCV.keep hD hq.2.1 hS.1.1 hS9.1.1 hS.2.1.1 hun rfl
  have hN := RRV.keep hN hS.1.1 hS.2.1.2.1 hun rfl rfl
  have hE := RCP.keep hE hq.2.2 hS.1.1 hS9.1.1 hS.2.1.1 hun rfl
  have hO := RRP.keep hO hS.1.1 hS.2.1.2.1 hun rfl rfl
  have hY := RMM.keep hY hS.2.1.2.1 hun rfl
  have hJ := RYK.keep hJ hS.1.1 hS.2.1.1 hun rfl
  have hS := hS9
  refine lv_pop (pc := 737) hx hb dL_law_737 rfl ?_
  refine lv_aload_n (pc := 738) hx hb dL_law_738 rfl (lv_at hl 2 rfl) ?_
  refine law_rd (pc := 739) X hX hbl hS hl 1 (by decide) (by decide) hi hL dL_law_739 dL_law_740 dL_law_742 dL_law_743 dL_law_744 ?_
  refine law_rd (pc := 745) X hX hbl hS hl 2 (by decide) (by decide) hi hL dL_law_745 dL_law_746 dL_law_748 dL_law_749 dL_law_750 ?_
  refine law_rd (pc := 751) X hX hbl hS hl 3 (by decide) (by decide) hi hL dL_law_751 dL_law_752 dL_law_754 dL_law_755 dL_law_756 ?_
  refine law_callU (pc := 757) (ci := 12) (As := [.int (xs (i + 1)), .int (xs (i + 2)), .int (xs (i + 3))]) (rs := []) X hS (SX12_known_0 l g) vL_82 rfl hS.2.1.2.1 (by decide) rfl ⟨av_ref hS.2.1.2.1 (by decide), avi_top _, avi_top _, avi_top _, trivial⟩ rfl rfl hl.1 rfl (Nat.le_of_ble_eq_true rfl) ⟨Nat.le_of_ble_eq_true rfl, Nat.le_of_ble_eq_true rfl⟩ ⟨by omega, by omega⟩ dL_law_757 rfl rfl (fun x9 H locs hun hS9 => ?_)
  have hC := RC1.keep hC hS.1.1 hS.2.1.1 hun rfl
  have hM := RR1.keep hM hS.1.1 hS.2.1.2.1 hun rfl
  have hD := RCV.keep hD hq.2.1 hS.1.1 hS9.1.1 hS.2.1.1 hun rfl
  have hN := RRV.keep hN hS.1.1 hS.2.1.2.1 hun rfl rfl
  have hE := RCP.keep hE hq.2.2 hS.1.1 hS9.1.1 hS.2.1.1 hun rfl
  have hO := RRP.keep hO hS.1.1 hS.2.1.2.1 hun rfl rfl
  have hY := RMM.keep hY hS.2.1.2.1 hun rfl
  have hJ := RYK.keep hJ hS.1.1 hS.2.1.1 hun rfl
  have hS := hS9
  refine lv_pop (pc := 760) hx hb dL_law_760 rfl ?_
  refine lv_goto (tgt := 1864) (pc := 761) hx hb dL_law_761 rfl ?_
  exact KK _ _ _ _ _ _ q _ _ (by omega) (by omega) hS hq hC hD hE hM hN hO hY hJ hZ (lv_sub hl [0, 1, 2, 3, 4] rfl)

set_option maxHeartbeats 4000000 in
set_option maxRecDepth 100000 in
theorem law_13 {p : Program} {e : Env} {s : State} {m : MethodId} {below : List Frame} {meth : Method} {c : Code} {l : Launch} {b L i C S x0 m0 o0 : Nat} {xs : Nat → Int32} {g : GG} {Γ : Nat → Nat} {H : Heap} {locs : List Loc} {q : RLT} {V : Nat → VV} {P : Nat → PP} {ls : Array Slot} {cells slots : Nat} (X : CTX p l m meth c cL_law 7 s #[Value.ref b] RL g (AL s)) (hr : meth.sig.returnType = ret) (hX : va_X b L xs s s.heap) (hbl : b < s.heap.size) (hL : L ≤ 3072) (hi : i + 6 ≤ L) (hS : LWS g x0 m0 o0 s Γ H locs) (hl : lv_has ls 7 (LO b x0 m0 o0 i)) (hc : cells + 13 ≤ C) (hs : slots + 380 ≤ S) (hcC : C ≤ 601024) (hSl : S ≤ 7293034) (hq : RLW q) (hC : R1c g x0 q H) (hD : RCV g x0 q.2.2.1 V H) (hM : R1m g m0 q H) (hN : RRV g m0 q.2.2.1 V H) (hE : RCP g x0 q.2.2.2 P H) (hO : RRP g m0 q.2.2.2 P H) (hY : RMM g m0 H) (hJ : RYK g x0 H) (hZ : PLX q.2.2.1 V q.2.2.2 P) (KK : LGP p l e s m b below meth c g x0 m0 o0 i C S) : W p l e room_1 s m #[Value.ref b] below meth c H locs cells slots (lw_Z below #[Value.ref b] s) (F0 m 764 ls []) := by
  have hx := X.1
  have hb := X.2.1
  refine lv_aload_n (pc := 764) hx hb dL_law_764 rfl (lv_at hl 1 rfl) ?_
  refine law_rd (pc := 765) X hX hbl hS hl 1 (by decide) (by decide) hi hL dL_law_765 dL_law_766 dL_law_768 dL_law_769 dL_law_770 ?_
  refine law_rd (pc := 771) X hX hbl hS hl 2 (by decide) (by decide) hi hL dL_law_771 dL_law_772 dL_law_774 dL_law_775 dL_law_776 ?_
  refine law_rd (pc := 777) X hX hbl hS hl 3 (by decide) (by decide) hi hL dL_law_777 dL_law_778 dL_law_780 dL_law_781 dL_law_782 ?_
  refine law_callU (pc := 783) (ci := 11) (As := [.int (xs (i + 1)), .int (xs (i + 2)), .int (xs (i + 3))]) (rs := []) X hS (SX11_together_0 l g) vL_83 rfl hS.2.1.1 (by decide) rfl ⟨av_ref hS.2.1.1 (by decide), avi_top _, avi_top _, avi_top _, trivial⟩ rfl rfl hl.1 rfl (Nat.le_of_ble_eq_true rfl) ⟨Nat.le_of_ble_eq_true rfl, Nat.le_of_ble_eq_true rfl⟩ ⟨by omega, by omega⟩ dL_law_783 rfl rfl (fun x9 H locs hun hS9 => ?_)
  have hC := RC1.keep hC hS.1.1 hS.2.1.1 hun rfl
  have hM := RR1.keep hM hS.1.1 hS.2.1.2.1 hun rfl
  have hD := RCV.keep hD hq.2.1 hS.1.1 hS9.1.1 hS.2.1.1 hun rfl
  have hN := RRV.keep hN hS.1.1 hS.2.1.2.1 hun rfl rfl
  have hE := RCP.keep hE hq.2.2 hS.1.1 hS9.1.1 hS.2.1.1 hun rfl
  have hO := RRP.keep hO hS.1.1 hS.2.1.2.1 hun rfl rfl
  have hY := RMM.keep hY hS.2.1.2.1 hun rfl
  have hJ := RYK.keep hJ hS.1.1 hS.2.1.1 hun rfl
  have hS := hS9
  refine lv_pop (pc := 786) hx hb dL_law_786 rfl ?_
  refine lv_aload_n (pc := 787) hx hb dL_law_787 rfl (lv_at hl 2 rfl) ?_
  refine law_rd (pc := 788) X hX hbl hS hl 1 (by decide) (by decide) hi hL dL_law_788 dL_law_789 dL_law_791 dL_law_792 dL_law_793 ?_
  refine law_rd (pc := 794) X hX hbl hS hl 2 (by decide) (by decide) hi hL dL_law_794 dL_law_795 dL_law_797 dL_law_798 dL_law_799 ?_
  refine law_rd (pc := 800) X hX hbl hS hl 3 (by decide) (by decide) hi hL dL_law_800 dL_law_801 dL_law_803 dL_law_804 dL_law_805 ?_
  refine law_callU (pc := 806) (ci := 12) (As := [.int (xs (i + 1)), .int (xs (i + 2)), .int (xs (i + 3))]) (rs := []) X hS (SX12_together_0 l g) vL_86 rfl hS.2.1.2.1 (by decide) rfl ⟨av_ref hS.2.1.2.1 (by decide), avi_top _, avi_top _, avi_top _, trivial⟩ rfl rfl hl.1 rfl (Nat.le_of_ble_eq_true rfl) ⟨Nat.le_of_ble_eq_true rfl, Nat.le_of_ble_eq_true rfl⟩ ⟨by omega, by omega⟩ dL_law_806 rfl rfl (fun x9 H locs hun hS9 => ?_)
  have hC := RC1.keep hC hS.1.1 hS.2.1.1 hun rfl
  have hM := RR1.keep hM hS.1.1 hS.2.1.2.1 hun rfl
  have hD := RCV.keep hD hq.2.1 hS.1.1 hS9.1.1 hS.2.1.1 hun rfl
  have hN := RRV.keep hN hS.1.1 hS.2.1.2.1 hun rfl rfl
  have hE := RCP.keep hE hq.2.2 hS.1.1 hS9.1.1 hS.2.1.1 hun rfl
  have hO := RRP.keep hO hS.1.1 hS.2.1.2.1 hun rfl rfl
  have hY := RMM.keep hY hS.2.1.2.1 hun rfl
  have hJ := RYK.keep hJ hS.1.1 hS.2.1.1 hun rfl
  have hS := hS9
  refine lv_pop (pc := 809) hx hb dL_law_809 rfl ?_
  refine lv_goto (tgt := 1864) (pc := 810) hx hb dL_law_810 rfl ?_
  exact KK _ _ _ _ _ _ q _ _ (by omega) (by omega) hS hq hC hD hE hM hN hO hY hJ hZ (lv_sub hl [0, 1, 2, 3, 4] rfl)

set_option maxHeartbeats 4000000 in
set_option maxRecDepth 100000 in
theorem law_14 {p : Program} {e : Env} {s : State} {m : MethodId} {below : List Frame} {meth : Method} {c : Code} {l : Launch} {b L i C S x0 m0 o0 : Nat} {xs : Nat → Int32} {g : GG} {Γ : Nat → Nat} {H : Heap} {locs : List Loc} {q : RLT} {V : Nat → VV} {P : Nat → PP} {ls : Array Slot} {cells slots : Nat} (X : CTX p l m meth c cL_law 7 s #[Value.ref b] RL g (AL s)) (hr : meth.sig.returnType = ret) (hX : va_X b L xs s s.heap) (hbl : b < s.heap.size) (hL : L ≤ 3072) (hi : i + 6 ≤ L) (hS : LWS g x0 m0 o0 s Γ H locs) (hl : lv_has ls 7 (LO b x0 m0 o0 i)) (hc : cells + 13 ≤ C) (hs : slots + 380 ≤ S) (hcC : C ≤ 601024) (hSl : S ≤ 7293034) (hq : RLW q) (hC : R1c g x0 q H) (hD : RCV g x0 q.2.2.1 V H) (hM : R1m g m0 q H) (hN : RRV g m0 q.2.2.1 V H) (hE : RCP g x0 q.2.2.2 P H) (hO : RRP g m0 q.2.2.2 P H) (hY : RMM g m0 H) (hJ : RYK g x0 H) (hZ : PLX q.2.2.1 V q.2.2.2 P) (KK : LGP p l e s m b below meth c g x0 m0 o0 i C S) : W p l e room_1 s m #[Value.ref b] below meth c H locs cells slots (lw_Z below #[Value.ref b] s) (F0 m 813 ls []) := by
  have hx := X.1
  have hb := X.2.1
  refine lv_aload_n (pc := 813) hx hb dL_law_813 rfl (lv_at hl 1 rfl) ?_
  refine law_rd (pc := 814) X hX hbl hS hl 1 (by decide) (by decide) hi hL dL_law_814 dL_law_815 dL_law_817 dL_law_818 dL_law_819 ?_
  refine law_rd (pc := 820) X hX hbl hS hl 2 (by decide) (by decide) hi hL dL_law_820 dL_law_821 dL_law_823 dL_law_824 dL_law_825 ?_
  refine law_callU (pc := 826) (ci := 11) (As := [.int (xs (i + 1)), .int (xs (i + 2))]) (rs := []) X hS (SX11_when_0 l g) vL_87 rfl hS.2.1.1 (by decide) rfl ⟨av_ref hS.2.1.1 (by decide), avi_top _, avi_top _, trivial⟩ rfl rfl hl.1 rfl (Nat.le_of_ble_eq_true rfl) ⟨Nat.le_of_ble_eq_true rfl, Nat.le_of_ble_eq_true rfl⟩ ⟨by omega, by omega⟩ dL_law_826 rfl rfl (fun x9 H locs hun hS9 => ?_)
  have hC := RC1.keep hC hS.1.1 hS.2.1.1 hun rfl
  have hM := RR1.keep hM hS.1.1 hS.2.1.2.1 hun rfl
  have hD := RCV.keep hD hq.2.1 hS.1.1 hS9.1.1 hS.2.1.1 hun rfl
  have hN := RRV.keep hN hS.1.1 hS.2.1.2.1 hun rfl rfl
  have hE := RCP.keep hE hq.2.2 hS.1.1 hS9.1.1 hS.2.1.1 hun rfl
  have hO := RRP.keep hO hS.1.1 hS.2.1.2.1 hun rfl rfl
  have hY := RMM.keep hY hS.2.1.2.1 hun rfl
  have hJ := RYK.keep hJ hS.1.1 hS.2.1.1 hun rfl
  have hS := hS9
  refine lv_pop (pc := 829) hx hb dL_law_829 rfl ?_
  refine lv_aload_n (pc := 830) hx hb dL_law_830 rfl (lv_at hl 2 rfl) ?_
  refine law_rd (pc := 831) X hX hbl hS hl 1 (by decide) (by decide) hi hL dL_law_831 dL_law_832 dL_law_834 dL_law_835 dL_law_836 ?_
  refine law_rd (pc := 837) X hX hbl hS hl 2 (by decide) (by decide) hi hL dL_law_837 dL_law_838 dL_law_840 dL_law_841 dL_law_842 ?_
  refine law_callU (pc := 843) (ci := 12) (As := [.int (xs (i + 1)), .int (xs (i + 2))]) (rs := []) X hS (SX12_when_0 l g) vL_90 rfl hS.2.1.2.1 (by decide) rfl ⟨av_ref hS.2.1.2.1 (by decide), avi_top _, avi_top _, trivial⟩ rfl rfl hl.1 rfl (Nat.le_of_ble_eq_true rfl) ⟨Nat.le_of_ble_eq_true rfl, Nat.le_of_ble_eq_true rfl⟩ ⟨by omega, by omega⟩ dL_law_843 rfl rfl (fun x9 H locs hun hS9 => ?_)
  have hC := RC1.keep hC hS.1.1 hS.2.1.1 hun rfl
  have hM := RR1.keep hM hS.1.1 hS.2.1.2.1 hun rfl
  have hD := RCV.keep hD hq.2.1 hS.1.1 hS9.1.1 hS.2.1.1 hun rfl
  have hN := RRV.keep hN hS.1.1 hS.2.1.2.1 hun rfl rfl
  have hE := RCP.keep hE hq.2.2 hS.1.1 hS9.1.1 hS.2.1.1 hun rfl
  have hO := RRP.keep hO hS.1.1 hS.2.1.2.1 hun rfl rfl
  have hY := RMM.keep hY hS.2.1.2.1 hun rfl
  have hJ := RYK.keep hJ hS.1.1 hS.2.1.1 hun rfl
  have hS := hS9
  refine lv_pop (pc := 846) hx hb dL_law_846 rfl ?_
  refine lv_goto (tgt := 1864) (pc := 847) hx hb dL_law_847 rfl ?_
  exact KK _ _ _ _ _ _ q _ _ (by omega) (by omega) hS hq hC hD hE hM hN hO hY hJ hZ (lv_sub hl [0, 1, 2, 3, 4] rfl)

set_option maxHeartbeats 4000000 in
set_option maxRecDepth 100000 in
theorem law_15 {p : Program} {e : Env} {s : State} {m : MethodId} {below : List Frame} {meth : Method} {c : Code} {l : Launch} {b L i C S x0 m0 o0 : Nat} {xs : Nat → Int32} {g : GG} {Γ : Nat → Nat} {H : Heap} {locs : List Loc} {q : RLT} {V : Nat → VV} {P : Nat → PP} {ls : Array Slot} {cells slots : Nat} (X : CTX p l m meth c cL_law 7 s #[Value.ref b] RL g (AL s)) (hr : meth.sig.returnType = ret) (hX : va_X b L xs s s.heap) (hbl : b < s.heap.size) (hL : L ≤ 3072) (hi : i + 6 ≤ L) (hS : LWS g x0 m0 o0 s Γ H locs) (hl : lv_has ls 7 (LO b x0 m0 o0 i)) (hc : cells + 13 ≤ C) (hs : slots + 380 ≤ S) (hcC : C ≤ 601024) (hSl : S ≤ 7293034) (hq : RLW q) (hC : R1c g x0 q H) (hD : RCV g x0 q.2.2.1 V H) (hM : R1m g m0 q H) (hN : RRV g m0 q.2.2.1 V H) (hE : RCP g x0 q.2.2.2 P H) (hO : RRP g m0 q.2.2.2 P H) (hY : RMM g m0 H) (hJ : RYK g x0 H) (hZ : PLX q.2.2.1 V q.2.2.2 P) (KK : LGP p l e s m b below meth c g x0 m0 o0 i C S) : W p l e room_1 s m #[Value.ref b] below meth c H locs cells slots (lw_Z below #[Value.ref b] s) (F0 m 850 ls []) := by
  have hx := X.1
  have hb := X.2.1
  refine lv_aload_n (pc := 850) hx hb dL_law_850 rfl (lv_at hl 1 rfl) ?_
  refine law_rd (pc := 851) X hX hbl hS hl 1 (by decide) (by decide) hi hL dL_law_851 dL_law_852 dL_law_854 dL_law_855 dL_law_856 ?_
  refine law_rd (pc := 857) X hX hbl hS hl 2 (by decide) (by decide) hi hL dL_law_857 dL_law_858 dL_law_860 dL_law_861 dL_law_862 ?_
  refine law_rd (pc := 863) X hX hbl hS hl 3 (by decide) (by decide) hi hL dL_law_863 dL_law_864 dL_law_866 dL_law_867 dL_law_868 ?_
  refine law_callU (pc := 869) (ci := 11) (As := [.int (xs (i + 1)), .int (xs (i + 2)), .int (xs (i + 3))]) (rs := []) X hS (SX11_least_0 l g) vL_91 rfl hS.2.1.1 (by decide) rfl ⟨av_ref hS.2.1.1 (by decide), avi_top _, avi_top _, avi_top _, trivial⟩ rfl rfl hl.1 rfl (Nat.le_of_ble_eq_true rfl) ⟨Nat.le_of_ble_eq_true rfl, Nat.le_of_ble_eq_true rfl⟩ ⟨by omega, by omega⟩ dL_law_869 rfl rfl (fun x9 H locs hun hS9 => ?_)
  have hC := RC1.keep hC hS.1.1 hS.2.1.1 hun rfl
  have hM := RR1.keep hM hS.1.1 hS.2.1.2.1 hun rfl
  have hD := RCV.keep hD hq.2.1 hS.1.1 hS9.1.1 hS.2.1.1 hun rfl
  have hN := RRV.keep hN hS.1.1 hS.2.1.2.1 hun rfl rfl
  have hE := RCP.keep hE hq.2.2 hS.1.1 hS9.1.1 hS.2.1.1 hun rfl
  have hO := RRP.keep hO hS.1.1 hS.2.1.2.1 hun rfl rfl
  have hY := RMM.keep hY hS.2.1.2.1 hun rfl
  have hJ := RYK.keep hJ hS.1.1 hS.2.1.1 hun rfl
  have hS := hS9
  refine lv_pop (pc := 872) hx hb dL_law_872 rfl ?_
  refine lv_aload_n (pc := 873) hx hb dL_law_873 rfl (lv_at hl 2 rfl) ?_
  refine law_rd (pc := 874) X hX hbl hS hl 1 (by decide) (by decide) hi hL dL_law_874 dL_law_875 dL_law_877 dL_law_878 dL_law_879 ?_
  refine law_rd (pc := 880) X hX hbl hS hl 2 (by decide) (by decide) hi hL dL_law_880 dL_law_881 dL_law_883 dL_law_884 dL_law_885 ?_
  refine law_rd (pc := 886) X hX hbl hS hl 3 (by decide) (by decide) hi hL dL_law_886 dL_law_887 dL_law_889 dL_law_890 dL_law_891 ?_
  refine law_callU (pc := 892) (ci := 12) (As := [.int (xs (i + 1)), .int (xs (i + 2)), .int (xs (i + 3))]) (rs := []) X hS (SX12_least_0 l g) vL_94 rfl hS.2.1.2.1 (by decide) rfl ⟨av_ref hS.2.1.2.1 (by decide), avi_top _, avi_top _, avi_top _, trivial⟩ rfl rfl hl.1 rfl (Nat.le_of_ble_eq_true rfl) ⟨Nat.le_of_ble_eq_true rfl, Nat.le_of_ble_eq_true rfl⟩ ⟨by omega, by omega⟩ dL_law_892 rfl rfl (fun x9 H locs hun hS9 => ?_)
  have hC := RC1.keep hC hS.1.1 hS.2.1.1 hun rfl
  have hM := RR1.keep hM hS.1.1 hS.2.1.2.1 hun rfl
  have hD := RCV.keep hD hq.2.1 hS.1.1 hS9.1.1 hS.2.1.1 hun rfl
  have hN := RRV.keep hN hS.1.1 hS.2.1.2.1 hun rfl rfl
  have hE := RCP.keep hE hq.2.2 hS.1.1 hS9.1.1 hS.2.1.1 hun rfl
  have hO := RRP.keep hO hS.1.1 hS.2.1.2.1 hun rfl rfl
  have hY := RMM.keep hY hS.2.1.2.1 hun rfl
  have hJ := RYK.keep hJ hS.1.1 hS.2.1.1 hun rfl
  have hS := hS9
  refine lv_pop (pc := 895) hx hb dL_law_895 rfl ?_
  refine lv_goto (tgt := 1864) (pc := 896) hx hb dL_law_896 rfl ?_
  exact KK _ _ _ _ _ _ q _ _ (by omega) (by omega) hS hq hC hD hE hM hN hO hY hJ hZ (lv_sub hl [0, 1, 2, 3, 4] rfl)

set_option maxHeartbeats 4000000 in
set_option maxRecDepth 100000 in
theorem law_16 {p : Program} {e : Env} {s : State} {m : MethodId} {below : List Frame} {meth : Method} {c : Code} {l : Launch} {b L i C S x0 m0 o0 : Nat} {xs : Nat → Int32} {g : GG} {Γ : Nat → Nat} {H : Heap} {locs : List Loc} {q : RLT} {V : Nat → VV} {P : Nat → PP} {ls : Array Slot} {cells slots : Nat} (X : CTX p l m meth c cL_law 7 s #[Value.ref b] RL g (AL s)) (hr : meth.sig.returnType = ret) (hX : va_X b L xs s s.heap) (hbl : b < s.heap.size) (hL : L ≤ 3072) (hi : i + 6 ≤ L) (hS : LWS g x0 m0 o0 s Γ H locs) (hl : lv_has ls 7 (LO b x0 m0 o0 i)) (hc : cells + 13 ≤ C) (hs : slots + 380 ≤ S) (hcC : C ≤ 601024) (hSl : S ≤ 7293034) (hq : RLW q) (hC : R1c g x0 q H) (hD : RCV g x0 q.2.2.1 V H) (hM : R1m g m0 q H) (hN : RRV g m0 q.2.2.1 V H) (hE : RCP g x0 q.2.2.2 P H) (hO : RRP g m0 q.2.2.2 P H) (hY : RMM g m0 H) (hJ : RYK g x0 H) (hZ : PLX q.2.2.1 V q.2.2.2 P) (KK : LGP p l e s m b below meth c g x0 m0 o0 i C S) : W p l e room_1 s m #[Value.ref b] below meth c H locs cells slots (lw_Z below #[Value.ref b] s) (F0 m 899 ls []) := by
  have hx := X.1
  have hb := X.2.1
  refine lv_aload_n (pc := 899) hx hb dL_law_899 rfl (lv_at hl 1 rfl) ?_
  refine law_rd (pc := 900) X hX hbl hS hl 1 (by decide) (by decide) hi hL dL_law_900 dL_law_901 dL_law_903 dL_law_904 dL_law_905 ?_
  refine law_rd (pc := 906) X hX hbl hS hl 2 (by decide) (by decide) hi hL dL_law_906 dL_law_907 dL_law_909 dL_law_910 dL_law_911 ?_
  refine law_rd (pc := 912) X hX hbl hS hl 3 (by decide) (by decide) hi hL dL_law_912 dL_law_913 dL_law_915 dL_law_916 dL_law_917 ?_
  refine law_rd (pc := 918) X hX hbl hS hl 4 (by decide) (by decide) hi hL dL_law_918 dL_law_919 dL_law_921 dL_law_922 dL_law_923 ?_
  refine law_rd (pc := 924) X hX hbl hS hl 5 (by decide) (by decide) hi hL dL_law_924 dL_law_925 dL_law_927 dL_law_928 dL_law_929 ?_
  refine law_callU (pc := 930) (ci := 11) (As := [.int (xs (i + 1)), .int (xs (i + 2)), .int (xs (i + 3)), .int (xs (i + 4)), .int (xs (i + 5))]) (rs := []) X hS (SX11_found_0 l g) vL_95 rfl hS.2.1.1 (by decide) rfl ⟨av_ref hS.2.1.1 (by decide), avi_top _, avi_top _, avi_top _, avi_top _, avi_top _, trivial⟩ rfl rfl hl.1 rfl (Nat.le_of_ble_eq_true rfl) ⟨Nat.le_of_ble_eq_true rfl, Nat.le_of_ble_eq_true rfl⟩ ⟨by omega, by omega⟩ dL_law_930 rfl rfl (fun x9 H locs hun hS9 => ?_)
  have hC := RC1.keep hC hS.1.1 hS.2.1.1 hun rfl
  have hM := RR1.keep hM hS.1.1 hS.2.1.2.1 hun rfl
  have hD := RCV.keep hD hq.2.1 hS.1.1 hS9.1.1 hS.2.1.1 hun rfl
  have hN := RRV.keep hN hS.1.1 hS.2.1.2.1 hun rfl rfl
  have hE := RCP.keep hE hq.2.2 hS.1.1 hS9.1.1 hS.2.1.1 hun rfl
  have hO := RRP.keep hO hS.1.1 hS.2.1.2.1 hun rfl rfl
  have hY := RMM.keep hY hS.2.1.2.1 hun rfl
  have hJ := RYK.keep hJ hS.1.1 hS.2.1.1 hun rfl
  have hS := hS9
  refine lv_pop (pc := 933) hx hb dL_law_933 rfl ?_
  refine lv_aload_n (pc := 934) hx hb dL_law_934 rfl (lv_at hl 2 rfl) ?_
  refine law_rd (pc := 935) X hX hbl hS hl 1 (by decide) (by decide) hi hL dL_law_935 dL_law_936 dL_law_938 dL_law_939 dL_law_940 ?_
  refine law_rd (pc := 941) X hX hbl hS hl 2 (by decide) (by decide) hi hL dL_law_941 dL_law_942 dL_law_944 dL_law_945 dL_law_946 ?_
  refine law_rd (pc := 947) X hX hbl hS hl 3 (by decide) (by decide) hi hL dL_law_947 dL_law_948 dL_law_950 dL_law_951 dL_law_952 ?_
  refine law_rd (pc := 953) X hX hbl hS hl 4 (by decide) (by decide) hi hL dL_law_953 dL_law_954 dL_law_956 dL_law_957 dL_law_958 ?_
  refine law_rd (pc := 959) X hX hbl hS hl 5 (by decide) (by decide) hi hL dL_law_959 dL_law_960 dL_law_962 dL_law_963 dL_law_964 ?_
  refine law_callU (pc := 965) (ci := 12) (As := [.int (xs (i + 1)), .int (xs (i + 2)), .int (xs (i + 3)), .int (xs (i + 4)), .int (xs (i + 5))]) (rs := []) X hS (SX12_found_0 l g) vL_98 rfl hS.2.1.2.1 (by decide) rfl ⟨av_ref hS.2.1.2.1 (by decide), avi_top _, avi_top _, avi_top _, avi_top _, avi_top _, trivial⟩ rfl rfl hl.1 rfl (Nat.le_of_ble_eq_true rfl) ⟨Nat.le_of_ble_eq_true rfl, Nat.le_of_ble_eq_true rfl⟩ ⟨by omega, by omega⟩ dL_law_965 rfl rfl (fun x9 H locs hun hS9 => ?_)
  have hC := RC1.keep hC hS.1.1 hS.2.1.1 hun rfl
  have hM := RR1.keep hM hS.1.1 hS.2.1.2.1 hun rfl
  have hD := RCV.keep hD hq.2.1 hS.1.1 hS9.1.1 hS.2.1.1 hun rfl
  have hN := RRV.keep hN hS.1.1 hS.2.1.2.1 hun rfl rfl
  have hE := RCP.keep hE hq.2.2 hS.1.1 hS9.1.1 hS.2.1.1 hun rfl
  have hO := RRP.keep hO hS.1.1 hS.2.1.2.1 hun rfl rfl
  have hY := RMM.keep hY hS.2.1.2.1 hun rfl
  have hJ := RYK.keep hJ hS.1.1 hS.2.1.1 hun rfl
  have hS := hS9
  refine lv_pop (pc := 968) hx hb dL_law_968 rfl ?_
  refine lv_goto (tgt := 1864) (pc := 969) hx hb dL_law_969 rfl ?_
  exact KK _ _ _ _ _ _ q _ _ (by omega) (by omega) hS hq hC hD hE hM hN hO hY hJ hZ (lv_sub hl [0, 1, 2, 3, 4] rfl)

set_option maxHeartbeats 4000000 in
set_option maxRecDepth 100000 in
theorem law_17 {p : Program} {e : Env} {s : State} {m : MethodId} {below : List Frame} {meth : Method} {c : Code} {l : Launch} {b L i C S x0 m0 o0 : Nat} {xs : Nat → Int32} {g : GG} {Γ : Nat → Nat} {H : Heap} {locs : List Loc} {q : RLT} {V : Nat → VV} {P : Nat → PP} {ls : Array Slot} {cells slots : Nat} (X : CTX p l m meth c cL_law 7 s #[Value.ref b] RL g (AL s)) (hr : meth.sig.returnType = ret) (hX : va_X b L xs s s.heap) (hbl : b < s.heap.size) (hL : L ≤ 3072) (hi : i + 6 ≤ L) (hS : LWS g x0 m0 o0 s Γ H locs) (hl : lv_has ls 7 (LO b x0 m0 o0 i)) (hc : cells + 13 ≤ C) (hs : slots + 380 ≤ S) (hcC : C ≤ 601024) (hSl : S ≤ 7293034) (hq : RLW q) (hC : R1c g x0 q H) (hD : RCV g x0 q.2.2.1 V H) (hM : R1m g m0 q H) (hN : RRV g m0 q.2.2.1 V H) (hE : RCP g x0 q.2.2.2 P H) (hO : RRP g m0 q.2.2.2 P H) (hY : RMM g m0 H) (hJ : RYK g x0 H) (hZ : PLX q.2.2.1 V q.2.2.2 P) (KK : LGP p l e s m b below meth c g x0 m0 o0 i C S) : W p l e room_1 s m #[Value.ref b] below meth c H locs cells slots (lw_Z below #[Value.ref b] s) (F0 m 972 ls []) := by
  have hx := X.1
  have hb := X.2.1
  refine lv_aload_n (pc := 972) hx hb dL_law_972 rfl (lv_at hl 1 rfl) ?_
  refine law_rd (pc := 973) X hX hbl hS hl 1 (by decide) (by decide) hi hL dL_law_973 dL_law_974 dL_law_976 dL_law_977 dL_law_978 ?_
  refine law_rd (pc := 979) X hX hbl hS hl 2 (by decide) (by decide) hi hL dL_law_979 dL_law_980 dL_law_982 dL_law_983 dL_law_984 ?_
  refine law_rd (pc := 985) X hX hbl hS hl 3 (by decide) (by decide) hi hL dL_law_985 dL_law_986 dL_law_988 dL_law_989 dL_law_990 ?_
  refine law_rd (pc := 991) X hX hbl hS hl 4 (by decide) (by decide) hi hL dL_law_991 dL_law_992 dL_law_994 dL_law_995 dL_law_996 ?_
  refine law_callU (pc := 997) (ci := 11) (As := [.int (xs (i + 1)), .int (xs (i + 2)), .int (xs (i + 3)), .int (xs (i + 4))]) (rs := []) X hS (SX11_reach_0 l g) vL_99 rfl hS.2.1.1 (by decide) rfl ⟨av_ref hS.2.1.1 (by decide), avi_top _, avi_top _, avi_top _, avi_top _, trivial⟩ rfl rfl hl.1 rfl (Nat.le_of_ble_eq_true rfl) ⟨Nat.le_of_ble_eq_true rfl, Nat.le_of_ble_eq_true rfl⟩ ⟨by omega, by omega⟩ dL_law_997 rfl rfl (fun x9 H locs hun hS9 => ?_)
  have hC := RC1.keep hC hS.1.1 hS.2.1.1 hun rfl
  have hM := RR1.keep hM hS.1.1 hS.2.1.2.1 hun rfl
  have hD := RCV.keep hD hq.2.1 hS.1.1 hS9.1.1 hS.2.1.1 hun rfl
  have hN := RRV.keep hN hS.1.1 hS.2.1.2.1 hun rfl rfl
  have hE := RCP.keep hE hq.2.2 hS.1.1 hS9.1.1 hS.2.1.1 hun rfl
  have hO := RRP.keep hO hS.1.1 hS.2.1.2.1 hun rfl rfl
  have hY := RMM.keep hY hS.2.1.2.1 hun rfl
  have hJ := RYK.keep hJ hS.1.1 hS.2.1.1 hun rfl
  have hS := hS9
  refine lv_pop (pc := 1000) hx hb dL_law_1000 rfl ?_
  refine lv_aload_n (pc := 1001) hx hb dL_law_1001 rfl (lv_at hl 2 rfl) ?_
  refine law_rd (pc := 1002) X hX hbl hS hl 1 (by decide) (by decide) hi hL dL_law_1002 dL_law_1003 dL_law_1005 dL_law_1006 dL_law_1007 ?_
  refine law_rd (pc := 1008) X hX hbl hS hl 2 (by decide) (by decide) hi hL dL_law_1008 dL_law_1009 dL_law_1011 dL_law_1012 dL_law_1013 ?_
  refine law_rd (pc := 1014) X hX hbl hS hl 3 (by decide) (by decide) hi hL dL_law_1014 dL_law_1015 dL_law_1017 dL_law_1018 dL_law_1019 ?_
  refine law_rd (pc := 1020) X hX hbl hS hl 4 (by decide) (by decide) hi hL dL_law_1020 dL_law_1021 dL_law_1023 dL_law_1024 dL_law_1025 ?_
  refine law_callU (pc := 1026) (ci := 12) (As := [.int (xs (i + 1)), .int (xs (i + 2)), .int (xs (i + 3)), .int (xs (i + 4))]) (rs := []) X hS (SX12_reach_0 l g) vL_102 rfl hS.2.1.2.1 (by decide) rfl ⟨av_ref hS.2.1.2.1 (by decide), avi_top _, avi_top _, avi_top _, avi_top _, trivial⟩ rfl rfl hl.1 rfl (Nat.le_of_ble_eq_true rfl) ⟨Nat.le_of_ble_eq_true rfl, Nat.le_of_ble_eq_true rfl⟩ ⟨by omega, by omega⟩ dL_law_1026 rfl rfl (fun x9 H locs hun hS9 => ?_)
  have hC := RC1.keep hC hS.1.1 hS.2.1.1 hun rfl
  have hM := RR1.keep hM hS.1.1 hS.2.1.2.1 hun rfl
  have hD := RCV.keep hD hq.2.1 hS.1.1 hS9.1.1 hS.2.1.1 hun rfl
  have hN := RRV.keep hN hS.1.1 hS.2.1.2.1 hun rfl rfl
  have hE := RCP.keep hE hq.2.2 hS.1.1 hS9.1.1 hS.2.1.1 hun rfl
  have hO := RRP.keep hO hS.1.1 hS.2.1.2.1 hun rfl rfl
  have hY := RMM.keep hY hS.2.1.2.1 hun rfl
  have hJ := RYK.keep hJ hS.1.1 hS.2.1.1 hun rfl
  have hS := hS9
  refine lv_pop (pc := 1029) hx hb dL_law_1029 rfl ?_
  refine lv_goto (tgt := 1864) (pc := 1030) hx hb dL_law_1030 rfl ?_
  exact KK _ _ _ _ _ _ q _ _ (by omega) (by omega) hS hq hC hD hE hM hN hO hY hJ hZ (lv_sub hl [0, 1, 2, 3, 4] rfl)

set_option maxHeartbeats 4000000 in
set_option maxRecDepth 100000 in
theorem law_18 {p : Program} {e : Env} {s : State} {m : MethodId} {below : List Frame} {meth : Method} {c : Code} {l : Launch} {b L i C S x0 m0 o0 : Nat} {xs : Nat → Int32} {g : GG} {Γ : Nat → Nat} {H : Heap} {locs : List Loc} {q : RLT} {V : Nat → VV} {P : Nat → PP} {ls : Array Slot} {cells slots : Nat} (X : CTX p l m meth c cL_law 7 s #[Value.ref b] RL g (AL s)) (hr : meth.sig.returnType = ret) (hX : va_X b L xs s s.heap) (hbl : b < s.heap.size) (hL : L ≤ 3072) (hi : i + 6 ≤ L) (hS : LWS g x0 m0 o0 s Γ H locs) (hl : lv_has ls 7 (LO b x0 m0 o0 i)) (hc : cells + 13 ≤ C) (hs : slots + 380 ≤ S) (hcC : C ≤ 601024) (hSl : S ≤ 7293034) (hq : RLW q) (hC : R1c g x0 q H) (hD : RCV g x0 q.2.2.1 V H) (hM : R1m g m0 q H) (hN : RRV g m0 q.2.2.1 V H) (hE : RCP g x0 q.2.2.2 P H) (hO : RRP g m0 q.2.2.2 P H) (hY : RMM g m0 H) (hJ : RYK g x0 H) (hZ : PLX q.2.2.1 V q.2.2.2 P) (KK : LGP p l e s m b below meth c g x0 m0 o0 i C S) : W p l e room_1 s m #[Value.ref b] below meth c H locs cells slots (lw_Z below #[Value.ref b] s) (F0 m 1033 ls []) := by
  have hx := X.1
  have hb := X.2.1
  refine lv_aload_n (pc := 1033) hx hb dL_law_1033 rfl (lv_at hl 1 rfl) ?_
  refine law_rd (pc := 1034) X hX hbl hS hl 1 (by decide) (by decide) hi hL dL_law_1034 dL_law_1035 dL_law_1037 dL_law_1038 dL_law_1039 ?_
  refine law_rd (pc := 1040) X hX hbl hS hl 2 (by decide) (by decide) hi hL dL_law_1040 dL_law_1041 dL_law_1043 dL_law_1044 dL_law_1045 ?_
  refine law_rd (pc := 1046) X hX hbl hS hl 3 (by decide) (by decide) hi hL dL_law_1046 dL_law_1047 dL_law_1049 dL_law_1050 dL_law_1051 ?_
  refine law_callU (pc := 1052) (ci := 11) (As := [.int (xs (i + 1)), .int (xs (i + 2)), .int (xs (i + 3))]) (rs := []) X hS (SX11_from_0 l g) vL_103 rfl hS.2.1.1 (by decide) rfl ⟨av_ref hS.2.1.1 (by decide), avi_top _, avi_top _, avi_top _, trivial⟩ rfl rfl hl.1 rfl (Nat.le_of_ble_eq_true rfl) ⟨Nat.le_of_ble_eq_true rfl, Nat.le_of_ble_eq_true rfl⟩ ⟨by omega, by omega⟩ dL_law_1052 rfl rfl (fun x9 H locs hun hS9 => ?_)
  have hC := RC1.keep hC hS.1.1 hS.2.1.1 hun rfl
  have hM := RR1.keep hM hS.1.1 hS.2.1.2.1 hun rfl
  have hD := RCV.keep hD hq.2.1 hS.1.1 hS9.1.1 hS.2.1.1 hun rfl
  have hN := RRV.keep hN hS.1.1 hS.2.1.2.1 hun rfl rfl
  have hE := RCP.keep hE hq.2.2 hS.1.1 hS9.1.1 hS.2.1.1 hun rfl
  have hO := RRP.keep hO hS.1.1 hS.2.1.2.1 hun rfl rfl
  have hY := RMM.keep hY hS.2.1.2.1 hun rfl
  have hJ := RYK.keep hJ hS.1.1 hS.2.1.1 hun rfl
  have hS := hS9
  refine lv_pop (pc := 1055) hx hb dL_law_1055 rfl ?_
  refine lv_aload_n (pc := 1056) hx hb dL_law_1056 rfl (lv_at hl 2 rfl) ?_
  refine law_rd (pc := 1057) X hX hbl hS hl 1 (by decide) (by decide) hi hL dL_law_1057 dL_law_1058 dL_law_1060 dL_law_1061 dL_law_1062 ?_
  refine law_rd (pc := 1063) X hX hbl hS hl 2 (by decide) (by decide) hi hL dL_law_1063 dL_law_1064 dL_law_1066 dL_law_1067 dL_law_1068 ?_
  refine law_rd (pc := 1069) X hX hbl hS hl 3 (by decide) (by decide) hi hL dL_law_1069 dL_law_1070 dL_law_1072 dL_law_1073 dL_law_1074 ?_
  refine law_callU (pc := 1075) (ci := 12) (As := [.int (xs (i + 1)), .int (xs (i + 2)), .int (xs (i + 3))]) (rs := []) X hS (SX12_from_0 l g) vL_106 rfl hS.2.1.2.1 (by decide) rfl ⟨av_ref hS.2.1.2.1 (by decide), avi_top _, avi_top _, avi_top _, trivial⟩ rfl rfl hl.1 rfl (Nat.le_of_ble_eq_true rfl) ⟨Nat.le_of_ble_eq_true rfl, Nat.le_of_ble_eq_true rfl⟩ ⟨by omega, by omega⟩ dL_law_1075 rfl rfl (fun x9 H locs hun hS9 => ?_)
  have hC := RC1.keep hC hS.1.1 hS.2.1.1 hun rfl
  have hM := RR1.keep hM hS.1.1 hS.2.1.2.1 hun rfl
  have hD := RCV.keep hD hq.2.1 hS.1.1 hS9.1.1 hS.2.1.1 hun rfl
  have hN := RRV.keep hN hS.1.1 hS.2.1.2.1 hun rfl rfl
  have hE := RCP.keep hE hq.2.2 hS.1.1 hS9.1.1 hS.2.1.1 hun rfl
  have hO := RRP.keep hO hS.1.1 hS.2.1.2.1 hun rfl rfl
  have hY := RMM.keep hY hS.2.1.2.1 hun rfl
  have hJ := RYK.keep hJ hS.1.1 hS.2.1.1 hun rfl
  have hS := hS9
  refine lv_pop (pc := 1078) hx hb dL_law_1078 rfl ?_
  refine lv_goto (tgt := 1864) (pc := 1079) hx hb dL_law_1079 rfl ?_
  exact KK _ _ _ _ _ _ q _ _ (by omega) (by omega) hS hq hC hD hE hM hN hO hY hJ hZ (lv_sub hl [0, 1, 2, 3, 4] rfl)

set_option maxHeartbeats 4000000 in
set_option maxRecDepth 100000 in
theorem law_19 {p : Program} {e : Env} {s : State} {m : MethodId} {below : List Frame} {meth : Method} {c : Code} {l : Launch} {b L i C S x0 m0 o0 : Nat} {xs : Nat → Int32} {g : GG} {Γ : Nat → Nat} {H : Heap} {locs : List Loc} {q : RLT} {V : Nat → VV} {P : Nat → PP} {ls : Array Slot} {cells slots : Nat} (X : CTX p l m meth c cL_law 7 s #[Value.ref b] RL g (AL s)) (hr : meth.sig.returnType = ret) (hX : va_X b L xs s s.heap) (hbl : b < s.heap.size) (hL : L ≤ 3072) (hi : i + 6 ≤ L) (hS : LWS g x0 m0 o0 s Γ H locs) (hl : lv_has ls 7 (LO b x0 m0 o0 i)) (hc : cells + 13 ≤ C) (hs : slots + 380 ≤ S) (hcC : C ≤ 601024) (hSl : S ≤ 7293034) (hq : RLW q) (hC : R1c g x0 q H) (hD : RCV g x0 q.2.2.1 V H) (hM : R1m g m0 q H) (hN : RRV g m0 q.2.2.1 V H) (hE : RCP g x0 q.2.2.2 P H) (hO : RRP g m0 q.2.2.2 P H) (hY : RMM g m0 H) (hJ : RYK g x0 H) (hZ : PLX q.2.2.1 V q.2.2.2 P) (KK : LGP p l e s m b below meth c g x0 m0 o0 i C S) : W p l e room_1 s m #[Value.ref b] below meth c H locs cells slots (lw_Z below #[Value.ref b] s) (F0 m 1082 ls []) := by
  have hx := X.1
  have hb := X.2.1
  refine lv_aload_n (pc := 1082) hx hb dL_law_1082 rfl (lv_at hl 1 rfl) ?_
  refine law_rd (pc := 1083) X hX hbl hS hl 1 (by decide) (by decide) hi hL dL_law_1083 dL_law_1084 dL_law_1086 dL_law_1087 dL_law_1088 ?_
  refine law_rd (pc := 1089) X hX hbl hS hl 2 (by decide) (by decide) hi hL dL_law_1089 dL_law_1090 dL_law_1092 dL_law_1093 dL_law_1094 ?_
  refine law_rd (pc := 1095) X hX hbl hS hl 3 (by decide) (by decide) hi hL dL_law_1095 dL_law_1096 dL_law_1098 dL_law_1099 dL_law_1100 ?_
  refine law_callU (pc := 1101) (ci := 11) (As := [.int (xs (i + 1)), .int (xs (i + 2)), .int (xs (i + 3))]) (rs := []) X hS (SX11_added_0 l g) vL_107 rfl hS.2.1.1 (by decide) rfl ⟨av_ref hS.2.1.1 (by decide), avi_top _, avi_top _, avi_top _, trivial⟩ rfl rfl hl.1 rfl (Nat.le_of_ble_eq_true rfl) ⟨Nat.le_of_ble_eq_true rfl, Nat.le_of_ble_eq_true rfl⟩ ⟨by omega, by omega⟩ dL_law_1101 rfl rfl (fun x9 H locs hun hS9 => ?_)
  have hC := RC1.keep hC hS.1.1 hS.2.1.1 hun rfl
  have hM := RR1.keep hM hS.1.1 hS.2.1.2.1 hun rfl
  have hD := RCV.keep hD hq.2.1 hS.1.1 hS9.1.1 hS.2.1.1 hun rfl
  have hN := RRV.keep hN hS.1.1 hS.2.1.2.1 hun rfl rfl
  have hE := RCP.keep hE hq.2.2 hS.1.1 hS9.1.1 hS.2.1.1 hun rfl
  have hO := RRP.keep hO hS.1.1 hS.2.1.2.1 hun rfl rfl
  have hY := RMM.keep hY hS.2.1.2.1 hun rfl
  have hJ := RYK.keep hJ hS.1.1 hS.2.1.1 hun rfl
  have hS := hS9
  refine lv_pop (pc := 1104) hx hb dL_law_1104 rfl ?_
  refine lv_aload_n (pc := 1105) hx hb dL_law_1105 rfl (lv_at hl 2 rfl) ?_
  refine law_rd (pc := 1106) X hX hbl hS hl 1 (by decide) (by decide) hi hL dL_law_1106 dL_law_1107 dL_law_1109 dL_law_1110 dL_law_1111 ?_
  refine law_rd (pc := 1112) X hX hbl hS hl 2 (by decide) (by decide) hi hL dL_law_1112 dL_law_1113 dL_law_1115 dL_law_1116 dL_law_1117 ?_
  refine law_rd (pc := 1118) X hX hbl hS hl 3 (by decide) (by decide) hi hL dL_law_1118 dL_law_1119 dL_law_1121 dL_law_1122 dL_law_1123 ?_
  refine law_callE (pc := 1124) (ci := 12) (As := [.int (xs (i + 1)), .int (xs (i + 2)), .int (xs (i + 3))]) (rs := []) X hS (E12_addedM hS.1.2.1 hS.2.1.2.1 (xs (i + 1)) (xs (i + 2)) (xs (i + 3))) vL_110 rfl hS.2.1.2.1 (by decide) rfl hY rfl hl.1 rfl (Nat.le_of_ble_eq_true rfl) ⟨Nat.le_of_ble_eq_true rfl, Nat.le_of_ble_eq_true rfl⟩ ⟨by omega, by omega⟩ dL_law_1124 rfl rfl (fun x9 H locs hp hun hS9 => ?_)
  have hC := RC1.keep hC hS.1.1 hS.2.1.1 hun rfl
  have hM := RR1.keep hM hS.1.1 hS.2.1.2.1 hun rfl
  have hD := RCV.keep hD hq.2.1 hS.1.1 hS9.1.1 hS.2.1.1 hun rfl
  have hN := RRV.keep hN hS.1.1 hS.2.1.2.1 hun rfl rfl
  have hE := RCP.keep hE hq.2.2 hS.1.1 hS9.1.1 hS.2.1.1 hun rfl
  have hO := RRP.keep hO hS.1.1 hS.2.1.2.1 hun rfl rfl
  have hJ := RYK.keep hJ hS.1.1 hS.2.1.1 hun rfl
  have hY := hp
  have hS := hS9
  refine lv_pop (pc := 1127) hx hb dL_law_1127 rfl ?_
  refine lv_goto (tgt := 1864) (pc := 1128) hx hb dL_law_1128 rfl ?_
  exact KK _ _ _ _ _ _ q _ _ (by omega) (by omega) hS hq hC hD hE hM hN hO hY hJ hZ (lv_sub hl [0, 1, 2, 3, 4] rfl)

set_option maxHeartbeats 4000000 in
set_option maxRecDepth 100000 in
theorem law_20 {p : Program} {e : Env} {s : State} {m : MethodId} {below : List Frame} {meth : Method} {c : Code} {l : Launch} {b L i C S x0 m0 o0 : Nat} {xs : Nat → Int32} {g : GG} {Γ : Nat → Nat} {H : Heap} {locs : List Loc} {q : RLT} {V : Nat → VV} {P : Nat → PP} {ls : Array Slot} {cells slots : Nat} (X : CTX p l m meth c cL_law 7 s #[Value.ref b] RL g (AL s)) (hr : meth.sig.returnType = ret) (hX : va_X b L xs s s.heap) (hbl : b < s.heap.size) (hL : L ≤ 3072) (hi : i + 6 ≤ L) (hS : LWS g x0 m0 o0 s Γ H locs) (hl : lv_has ls 7 (LO b x0 m0 o0 i)) (hc : cells + 13 ≤ C) (hs : slots + 380 ≤ S) (hcC : C ≤ 601024) (hSl : S ≤ 7293034) (hq : RLW q) (hC : R1c g x0 q H) (hD : RCV g x0 q.2.2.1 V H) (hM : R1m g m0 q H) (hN : RRV g m0 q.2.2.1 V H) (hE : RCP g x0 q.2.2.2 P H) (hO : RRP g m0 q.2.2.2 P H) (hY : RMM g m0 H) (hJ : RYK g x0 H) (hZ : PLX q.2.2.1 V q.2.2.2 P) (KK : LGP p l e s m b below meth c g x0 m0 o0 i C S) : W p l e room_1 s m #[Value.ref b] below meth c H locs cells slots (lw_Z below #[Value.ref b] s) (F0 m 1131 ls []) := by
  have hx := X.1
  have hb := X.2.1
  refine lv_aload_n (pc := 1131) hx hb dL_law_1131 rfl (lv_at hl 1 rfl) ?_
  refine law_rd (pc := 1132) X hX hbl hS hl 1 (by decide) (by decide) hi hL dL_law_1132 dL_law_1133 dL_law_1135 dL_law_1136 dL_law_1137 ?_
  refine law_rd (pc := 1138) X hX hbl hS hl 2 (by decide) (by decide) hi hL dL_law_1138 dL_law_1139 dL_law_1141 dL_law_1142 dL_law_1143 ?_
  refine law_rd (pc := 1144) X hX hbl hS hl 3 (by decide) (by decide) hi hL dL_law_1144 dL_law_1145 dL_law_1147 dL_law_1148 dL_law_1149 ?_
  refine law_rd (pc := 1150) X hX hbl hS hl 4 (by decide) (by decide) hi hL dL_law_1150 dL_law_1151 dL_law_1153 dL_law_1154 dL_law_1155 ?_
  refine law_callU (pc := 1156) (ci := 11) (As := [.int (xs (i + 1)), .int (xs (i + 2)), .int (xs (i + 3)), .int (xs (i + 4))]) (rs := []) X hS (SX11_shut_0 l g) vL_111 rfl hS.2.1.1 (by decide) rfl ⟨av_ref hS.2.1.1 (by decide), avi_top _, avi_top _, avi_top _, avi_top _, trivial⟩ rfl rfl hl.1 rfl (Nat.le_of_ble_eq_true rfl) ⟨Nat.le_of_ble_eq_true rfl, Nat.le_of_ble_eq_true rfl⟩ ⟨by omega, by omega⟩ dL_law_1156 rfl rfl (fun x9 H locs hun hS9 => ?_)
  have hC := RC1.keep hC hS.1.1 hS.2.1.1 hun rfl
  have hM := RR1.keep hM hS.1.1 hS.2.1.2.1 hun rfl
  have hD := RCV.keep hD hq.2.1 hS.1.1 hS9.1.1 hS.2.1.1 hun rfl
  have hN := RRV.keep hN hS.1.1 hS.2.1.2.1 hun rfl rfl
  have hE := RCP.keep hE hq.2.2 hS.1.1 hS9.1.1 hS.2.1.1 hun rfl
  have hO := RRP.keep hO hS.1.1 hS.2.1.2.1 hun rfl rfl
  have hY := RMM.keep hY hS.2.1.2.1 hun rfl
  have hJ := RYK.keep hJ hS.1.1 hS.2.1.1 hun rfl
  have hS := hS9
  refine lv_pop (pc := 1159) hx hb dL_law_1159 rfl ?_
  refine lv_aload_n (pc := 1160) hx hb dL_law_1160 rfl (lv_at hl 2 rfl) ?_
  refine law_rd (pc := 1161) X hX hbl hS hl 1 (by decide) (by decide) hi hL dL_law_1161 dL_law_1162 dL_law_1164 dL_law_1165 dL_law_1166 ?_
  refine law_rd (pc := 1167) X hX hbl hS hl 2 (by decide) (by decide) hi hL dL_law_1167 dL_law_1168 dL_law_1170 dL_law_1171 dL_law_1172 ?_
  refine law_rd (pc := 1173) X hX hbl hS hl 3 (by decide) (by decide) hi hL dL_law_1173 dL_law_1174 dL_law_1176 dL_law_1177 dL_law_1178 ?_
  refine law_rd (pc := 1179) X hX hbl hS hl 4 (by decide) (by decide) hi hL dL_law_1179 dL_law_1180 dL_law_1182 dL_law_1183 dL_law_1184 ?_
  refine law_callU (pc := 1185) (ci := 12) (As := [.int (xs (i + 1)), .int (xs (i + 2)), .int (xs (i + 3)), .int (xs (i + 4))]) (rs := []) X hS (SX12_shut_0 l g) vL_114 rfl hS.2.1.2.1 (by decide) rfl ⟨av_ref hS.2.1.2.1 (by decide), avi_top _, avi_top _, avi_top _, avi_top _, trivial⟩ rfl rfl hl.1 rfl (Nat.le_of_ble_eq_true rfl) ⟨Nat.le_of_ble_eq_true rfl, Nat.le_of_ble_eq_true rfl⟩ ⟨by omega, by omega⟩ dL_law_1185 rfl rfl (fun x9 H locs hun hS9 => ?_)
  have hC := RC1.keep hC hS.1.1 hS.2.1.1 hun rfl
  have hM := RR1.keep hM hS.1.1 hS.2.1.2.1 hun rfl
  have hD := RCV.keep hD hq.2.1 hS.1.1 hS9.1.1 hS.2.1.1 hun rfl
  have hN := RRV.keep hN hS.1.1 hS.2.1.2.1 hun rfl rfl
  have hE := RCP.keep hE hq.2.2 hS.1.1 hS9.1.1 hS.2.1.1 hun rfl
  have hO := RRP.keep hO hS.1.1 hS.2.1.2.1 hun rfl rfl
  have hY := RMM.keep hY hS.2.1.2.1 hun rfl
  have hJ := RYK.keep hJ hS.1.1 hS.2.1.1 hun rfl
  have hS := hS9
  refine lv_pop (pc := 1188) hx hb dL_law_1188 rfl ?_
  refine lv_goto (tgt := 1864) (pc := 1189) hx hb dL_law_1189 rfl ?_
  exact KK _ _ _ _ _ _ q _ _ (by omega) (by omega) hS hq hC hD hE hM hN hO hY hJ hZ (lv_sub hl [0, 1, 2, 3, 4] rfl)

set_option maxHeartbeats 4000000 in
set_option maxRecDepth 100000 in
theorem law_21 {p : Program} {e : Env} {s : State} {m : MethodId} {below : List Frame} {meth : Method} {c : Code} {l : Launch} {b L i C S x0 m0 o0 : Nat} {xs : Nat → Int32} {g : GG} {Γ : Nat → Nat} {H : Heap} {locs : List Loc} {q : RLT} {V : Nat → VV} {P : Nat → PP} {ls : Array Slot} {cells slots : Nat} (X : CTX p l m meth c cL_law 7 s #[Value.ref b] RL g (AL s)) (hr : meth.sig.returnType = ret) (hX : va_X b L xs s s.heap) (hbl : b < s.heap.size) (hL : L ≤ 3072) (hi : i + 6 ≤ L) (hS : LWS g x0 m0 o0 s Γ H locs) (hl : lv_has ls 7 (LO b x0 m0 o0 i)) (hc : cells + 13 ≤ C) (hs : slots + 380 ≤ S) (hcC : C ≤ 601024) (hSl : S ≤ 7293034) (hq : RLW q) (hC : R1c g x0 q H) (hD : RCV g x0 q.2.2.1 V H) (hM : R1m g m0 q H) (hN : RRV g m0 q.2.2.1 V H) (hE : RCP g x0 q.2.2.2 P H) (hO : RRP g m0 q.2.2.2 P H) (hY : RMM g m0 H) (hJ : RYK g x0 H) (hZ : PLX q.2.2.1 V q.2.2.2 P) (KK : LGP p l e s m b below meth c g x0 m0 o0 i C S) : W p l e room_1 s m #[Value.ref b] below meth c H locs cells slots (lw_Z below #[Value.ref b] s) (F0 m 1192 ls []) := by
  have hx := X.1
  have hb := X.2.1
  refine lv_aload_n (pc := 1192) hx hb dL_law_1192 rfl (lv_at hl 1 rfl) ?_
  refine law_rd (pc := 1193) X hX hbl hS hl 1 (by decide) (by decide) hi hL dL_law_1193 dL_law_1194 dL_law_1196 dL_law_1197 dL_law_1198 ?_
  refine law_callU (pc := 1199) (ci := 11) (As := [.int (xs (i + 1))]) (rs := []) X hS (SX11_fewest_0 l g) vL_115 rfl hS.2.1.1 (by decide) rfl ⟨av_ref hS.2.1.1 (by decide), avi_top _, trivial⟩ rfl rfl hl.1 rfl (Nat.le_of_ble_eq_true rfl) ⟨Nat.le_of_ble_eq_true rfl, Nat.le_of_ble_eq_true rfl⟩ ⟨by omega, by omega⟩ dL_law_1199 rfl rfl (fun x9 H locs hun hS9 => ?_)
  have hC := RC1.keep hC hS.1.1 hS.2.1.1 hun rfl
  have hM := RR1.keep hM hS.1.1 hS.2.1.2.1 hun rfl
  have hD := RCV.keep hD hq.2.1 hS.1.1 hS9.1.1 hS.2.1.1 hun rfl
  have hN := RRV.keep hN hS.1.1 hS.2.1.2.1 hun rfl rfl
  have hE := RCP.keep hE hq.2.2 hS.1.1 hS9.1.1 hS.2.1.1 hun rfl
  have hO := RRP.keep hO hS.1.1 hS.2.1.2.1 hun rfl rfl
  have hY := RMM.keep hY hS.2.1.2.1 hun rfl
  have hJ := RYK.keep hJ hS.1.1 hS.2.1.1 hun rfl
  have hS := hS9
  refine lv_pop (pc := 1202) hx hb dL_law_1202 rfl ?_
  refine lv_aload_n (pc := 1203) hx hb dL_law_1203 rfl (lv_at hl 2 rfl) ?_
  refine law_rd (pc := 1204) X hX hbl hS hl 1 (by decide) (by decide) hi hL dL_law_1204 dL_law_1205 dL_law_1207 dL_law_1208 dL_law_1209 ?_
  refine law_callU (pc := 1210) (ci := 12) (As := [.int (xs (i + 1))]) (rs := []) X hS (SX12_fewest_0 l g) vL_118 rfl hS.2.1.2.1 (by decide) rfl ⟨av_ref hS.2.1.2.1 (by decide), avi_top _, trivial⟩ rfl rfl hl.1 rfl (Nat.le_of_ble_eq_true rfl) ⟨Nat.le_of_ble_eq_true rfl, Nat.le_of_ble_eq_true rfl⟩ ⟨by omega, by omega⟩ dL_law_1210 rfl rfl (fun x9 H locs hun hS9 => ?_)
  have hC := RC1.keep hC hS.1.1 hS.2.1.1 hun rfl
  have hM := RR1.keep hM hS.1.1 hS.2.1.2.1 hun rfl
  have hD := RCV.keep hD hq.2.1 hS.1.1 hS9.1.1 hS.2.1.1 hun rfl
  have hN := RRV.keep hN hS.1.1 hS.2.1.2.1 hun rfl rfl
  have hE := RCP.keep hE hq.2.2 hS.1.1 hS9.1.1 hS.2.1.1 hun rfl
  have hO := RRP.keep hO hS.1.1 hS.2.1.2.1 hun rfl rfl
  have hY := RMM.keep hY hS.2.1.2.1 hun rfl
  have hJ := RYK.keep hJ hS.1.1 hS.2.1.1 hun rfl
  have hS := hS9
  refine lv_pop (pc := 1213) hx hb dL_law_1213 rfl ?_
  refine lv_goto (tgt := 1864) (pc := 1214) hx hb dL_law_1214 rfl ?_
  exact KK _ _ _ _ _ _ q _ _ (by omega) (by omega) hS hq hC hD hE hM hN hO hY hJ hZ (lv_sub hl [0, 1, 2, 3, 4] rfl)

set_option maxHeartbeats 4000000 in
set_option maxRecDepth 100000 in
theorem law_22 {p : Program} {e : Env} {s : State} {m : MethodId} {below : List Frame} {meth : Method} {c : Code} {l : Launch} {b L i C S x0 m0 o0 : Nat} {xs : Nat → Int32} {g : GG} {Γ : Nat → Nat} {H : Heap} {locs : List Loc} {q : RLT} {V : Nat → VV} {P : Nat → PP} {ls : Array Slot} {cells slots : Nat} (X : CTX p l m meth c cL_law 7 s #[Value.ref b] RL g (AL s)) (hr : meth.sig.returnType = ret) (hX : va_X b L xs s s.heap) (hbl : b < s.heap.size) (hL : L ≤ 3072) (hi : i + 6 ≤ L) (hS : LWS g x0 m0 o0 s Γ H locs) (hl : lv_has ls 7 (LO b x0 m0 o0 i)) (hc : cells + 13 ≤ C) (hs : slots + 380 ≤ S) (hcC : C ≤ 601024) (hSl : S ≤ 7293034) (hq : RLW q) (hC : R1c g x0 q H) (hD : RCV g x0 q.2.2.1 V H) (hM : R1m g m0 q H) (hN : RRV g m0 q.2.2.1 V H) (hE : RCP g x0 q.2.2.2 P H) (hO : RRP g m0 q.2.2.2 P H) (hY : RMM g m0 H) (hJ : RYK g x0 H) (hZ : PLX q.2.2.1 V q.2.2.2 P) (KK : LGP p l e s m b below meth c g x0 m0 o0 i C S) : W p l e room_1 s m #[Value.ref b] below meth c H locs cells slots (lw_Z below #[Value.ref b] s) (F0 m 1217 ls []) := by
  have hx := X.1
  have hb := X.2.1
  refine lv_aload_n (pc := 1217) hx hb dL_law_1217 rfl (lv_at hl 1 rfl) ?_
  refine law_rd (pc := 1218) X hX hbl hS hl 1 (by decide) (by decide) hi hL dL_law_1218 dL_law_1219 dL_law_1221 dL_law_1222 dL_law_1223 ?_
  refine law_rd (pc := 1224) X hX hbl hS hl 2 (by decide) (by decide) hi hL dL_law_1224 dL_law_1225 dL_law_1227 dL_law_1228 dL_law_1229 ?_
  refine law_callU (pc := 1230) (ci := 11) (As := [.int (xs (i + 1)), .int (xs (i + 2))]) (rs := []) X hS (SX11_gossip_0 l g) vL_119 rfl hS.2.1.1 (by decide) rfl ⟨av_ref hS.2.1.1 (by decide), avi_top _, avi_top _, trivial⟩ rfl rfl hl.1 rfl (Nat.le_of_ble_eq_true rfl) ⟨Nat.le_of_ble_eq_true rfl, Nat.le_of_ble_eq_true rfl⟩ ⟨by omega, by omega⟩ dL_law_1230 rfl rfl (fun x9 H locs hun hS9 => ?_)
  have hC := RC1.keep hC hS.1.1 hS.2.1.1 hun rfl
  have hM := RR1.keep hM hS.1.1 hS.2.1.2.1 hun rfl
  have hD := RCV.keep hD hq.2.1 hS.1.1 hS9.1.1 hS.2.1.1 hun rfl
  have hN := RRV.keep hN hS.1.1 hS.2.1.2.1 hun rfl rfl
  have hE := RCP.keep hE hq.2.2 hS.1.1 hS9.1.1 hS.2.1.1 hun rfl
  have hO := RRP.keep hO hS.1.1 hS.2.1.2.1 hun rfl rfl
  have hY := RMM.keep hY hS.2.1.2.1 hun rfl
  have hJ := RYK.keep hJ hS.1.1 hS.2.1.1 hun rfl
  have hS := hS9
  refine lv_pop (pc := 1233) hx hb dL_law_1233 rfl ?_
  refine lv_aload_n (pc := 1234) hx hb dL_law_1234 rfl (lv_at hl 2 rfl) ?_
  refine law_rd (pc := 1235) X hX hbl hS hl 1 (by decide) (by decide) hi hL dL_law_1235 dL_law_1236 dL_law_1238 dL_law_1239 dL_law_1240 ?_
  refine law_rd (pc := 1241) X hX hbl hS hl 2 (by decide) (by decide) hi hL dL_law_1241 dL_law_1242 dL_law_1244 dL_law_1245 dL_law_1246 ?_
  refine law_callU (pc := 1247) (ci := 12) (As := [.int (xs (i + 1)), .int (xs (i + 2))]) (rs := []) X hS (SX12_gossip_0 l g) vL_122 rfl hS.2.1.2.1 (by decide) rfl ⟨av_ref hS.2.1.2.1 (by decide), avi_top _, avi_top _, trivial⟩ rfl rfl hl.1 rfl (Nat.le_of_ble_eq_true rfl) ⟨Nat.le_of_ble_eq_true rfl, Nat.le_of_ble_eq_true rfl⟩ ⟨by omega, by omega⟩ dL_law_1247 rfl rfl (fun x9 H locs hun hS9 => ?_)
  have hC := RC1.keep hC hS.1.1 hS.2.1.1 hun rfl
  have hM := RR1.keep hM hS.1.1 hS.2.1.2.1 hun rfl
  have hD := RCV.keep hD hq.2.1 hS.1.1 hS9.1.1 hS.2.1.1 hun rfl
  have hN := RRV.keep hN hS.1.1 hS.2.1.2.1 hun rfl rfl
  have hE := RCP.keep hE hq.2.2 hS.1.1 hS9.1.1 hS.2.1.1 hun rfl
  have hO := RRP.keep hO hS.1.1 hS.2.1.2.1 hun rfl rfl
  have hY := RMM.keep hY hS.2.1.2.1 hun rfl
  have hJ := RYK.keep hJ hS.1.1 hS.2.1.1 hun rfl
  have hS := hS9
  refine lv_pop (pc := 1250) hx hb dL_law_1250 rfl ?_
  refine lv_goto (tgt := 1864) (pc := 1251) hx hb dL_law_1251 rfl ?_
  exact KK _ _ _ _ _ _ q _ _ (by omega) (by omega) hS hq hC hD hE hM hN hO hY hJ hZ (lv_sub hl [0, 1, 2, 3, 4] rfl)

set_option maxHeartbeats 4000000 in
set_option maxRecDepth 100000 in
theorem law_23 {p : Program} {e : Env} {s : State} {m : MethodId} {below : List Frame} {meth : Method} {c : Code} {l : Launch} {b L i C S x0 m0 o0 : Nat} {xs : Nat → Int32} {g : GG} {Γ : Nat → Nat} {H : Heap} {locs : List Loc} {q : RLT} {V : Nat → VV} {P : Nat → PP} {ls : Array Slot} {cells slots : Nat} (X : CTX p l m meth c cL_law 7 s #[Value.ref b] RL g (AL s)) (hr : meth.sig.returnType = ret) (hX : va_X b L xs s s.heap) (hbl : b < s.heap.size) (hL : L ≤ 3072) (hi : i + 6 ≤ L) (hS : LWS g x0 m0 o0 s Γ H locs) (hl : lv_has ls 7 (LO b x0 m0 o0 i)) (hc : cells + 13 ≤ C) (hs : slots + 380 ≤ S) (hcC : C ≤ 601024) (hSl : S ≤ 7293034) (hq : RLW q) (hC : R1c g x0 q H) (hD : RCV g x0 q.2.2.1 V H) (hM : R1m g m0 q H) (hN : RRV g m0 q.2.2.1 V H) (hE : RCP g x0 q.2.2.2 P H) (hO : RRP g m0 q.2.2.2 P H) (hY : RMM g m0 H) (hJ : RYK g x0 H) (hZ : PLX q.2.2.1 V q.2.2.2 P) (KK : LGP p l e s m b below meth c g x0 m0 o0 i C S) : W p l e room_1 s m #[Value.ref b] below meth c H locs cells slots (lw_Z below #[Value.ref b] s) (F0 m 1254 ls []) := by
  have hx := X.1
  have hb := X.2.1
  refine lv_aload_n (pc := 1254) hx hb dL_law_1254 rfl (lv_at hl 1 rfl) ?_
  refine law_rd (pc := 1255) X hX hbl hS hl 1 (by decide) (by decide) hi hL dL_law_1255 dL_law_1256 dL_law_1258 dL_law_1259 dL_law_1260 ?_
  refine law_rd (pc := 1261) X hX hbl hS hl 2 (by decide) (by decide) hi hL dL_law_1261 dL_law_1262 dL_law_1264 dL_law_1265 dL_law_1266 ?_
  refine law_callU (pc := 1267) (ci := 11) (As := [.int (xs (i + 1)), .int (xs (i + 2))]) (rs := []) X hS (SX11_ends_0 l g) vL_123 rfl hS.2.1.1 (by decide) rfl ⟨av_ref hS.2.1.1 (by decide), avi_top _, avi_top _, trivial⟩ rfl rfl hl.1 rfl (Nat.le_of_ble_eq_true rfl) ⟨Nat.le_of_ble_eq_true rfl, Nat.le_of_ble_eq_true rfl⟩ ⟨by omega, by omega⟩ dL_law_1267 rfl rfl (fun x9 H locs hun hS9 => ?_)
  have hC := RC1.keep hC hS.1.1 hS.2.1.1 hun rfl
  have hM := RR1.keep hM hS.1.1 hS.2.1.2.1 hun rfl
  have hD := RCV.keep hD hq.2.1 hS.1.1 hS9.1.1 hS.2.1.1 hun rfl
  have hN := RRV.keep hN hS.1.1 hS.2.1.2.1 hun rfl rfl
  have hE := RCP.keep hE hq.2.2 hS.1.1 hS9.1.1 hS.2.1.1 hun rfl
  have hO := RRP.keep hO hS.1.1 hS.2.1.2.1 hun rfl rfl
  have hY := RMM.keep hY hS.2.1.2.1 hun rfl
  have hJ := RYK.keep hJ hS.1.1 hS.2.1.1 hun rfl
  have hS := hS9
  refine lv_pop (pc := 1270) hx hb dL_law_1270 rfl ?_
  refine lv_aload_n (pc := 1271) hx hb dL_law_1271 rfl (lv_at hl 2 rfl) ?_
  refine law_rd (pc := 1272) X hX hbl hS hl 1 (by decide) (by decide) hi hL dL_law_1272 dL_law_1273 dL_law_1275 dL_law_1276 dL_law_1277 ?_
  refine law_rd (pc := 1278) X hX hbl hS hl 2 (by decide) (by decide) hi hL dL_law_1278 dL_law_1279 dL_law_1281 dL_law_1282 dL_law_1283 ?_
  refine law_callU (pc := 1284) (ci := 12) (As := [.int (xs (i + 1)), .int (xs (i + 2))]) (rs := []) X hS (SX12_ends_0 l g) vL_126 rfl hS.2.1.2.1 (by decide) rfl ⟨av_ref hS.2.1.2.1 (by decide), avi_top _, avi_top _, trivial⟩ rfl rfl hl.1 rfl (Nat.le_of_ble_eq_true rfl) ⟨Nat.le_of_ble_eq_true rfl, Nat.le_of_ble_eq_true rfl⟩ ⟨by omega, by omega⟩ dL_law_1284 rfl rfl (fun x9 H locs hun hS9 => ?_)
  have hC := RC1.keep hC hS.1.1 hS.2.1.1 hun rfl
  have hM := RR1.keep hM hS.1.1 hS.2.1.2.1 hun rfl
  have hD := RCV.keep hD hq.2.1 hS.1.1 hS9.1.1 hS.2.1.1 hun rfl
  have hN := RRV.keep hN hS.1.1 hS.2.1.2.1 hun rfl rfl
  have hE := RCP.keep hE hq.2.2 hS.1.1 hS9.1.1 hS.2.1.1 hun rfl
  have hO := RRP.keep hO hS.1.1 hS.2.1.2.1 hun rfl rfl
  have hY := RMM.keep hY hS.2.1.2.1 hun rfl
  have hJ := RYK.keep hJ hS.1.1 hS.2.1.1 hun rfl
  have hS := hS9
  refine lv_pop (pc := 1287) hx hb dL_law_1287 rfl ?_
  refine lv_goto (tgt := 1864) (pc := 1288) hx hb dL_law_1288 rfl ?_
  exact KK _ _ _ _ _ _ q _ _ (by omega) (by omega) hS hq hC hD hE hM hN hO hY hJ hZ (lv_sub hl [0, 1, 2, 3, 4] rfl)

set_option maxHeartbeats 4000000 in
set_option maxRecDepth 100000 in
theorem law_24 {p : Program} {e : Env} {s : State} {m : MethodId} {below : List Frame} {meth : Method} {c : Code} {l : Launch} {b L i C S x0 m0 o0 : Nat} {xs : Nat → Int32} {g : GG} {Γ : Nat → Nat} {H : Heap} {locs : List Loc} {q : RLT} {V : Nat → VV} {P : Nat → PP} {ls : Array Slot} {cells slots : Nat} (X : CTX p l m meth c cL_law 7 s #[Value.ref b] RL g (AL s)) (hr : meth.sig.returnType = ret) (hX : va_X b L xs s s.heap) (hbl : b < s.heap.size) (hL : L ≤ 3072) (hi : i + 6 ≤ L) (hS : LWS g x0 m0 o0 s Γ H locs) (hl : lv_has ls 7 (LO b x0 m0 o0 i)) (hc : cells + 13 ≤ C) (hs : slots + 380 ≤ S) (hcC : C ≤ 601024) (hSl : S ≤ 7293034) (hq : RLW q) (hC : R1c g x0 q H) (hD : RCV g x0 q.2.2.1 V H) (hM : R1m g m0 q H) (hN : RRV g m0 q.2.2.1 V H) (hE : RCP g x0 q.2.2.2 P H) (hO : RRP g m0 q.2.2.2 P H) (hY : RMM g m0 H) (hJ : RYK g x0 H) (hZ : PLX q.2.2.1 V q.2.2.2 P) (KK : LGP p l e s m b below meth c g x0 m0 o0 i C S) : W p l e room_1 s m #[Value.ref b] below meth c H locs cells slots (lw_Z below #[Value.ref b] s) (F0 m 1291 ls []) := by
  have hx := X.1
  have hb := X.2.1
  refine lv_aload_n (pc := 1291) hx hb dL_law_1291 rfl (lv_at hl 1 rfl) ?_
  refine law_rd (pc := 1292) X hX hbl hS hl 1 (by decide) (by decide) hi hL dL_law_1292 dL_law_1293 dL_law_1295 dL_law_1296 dL_law_1297 ?_
  refine law_rd (pc := 1298) X hX hbl hS hl 2 (by decide) (by decide) hi hL dL_law_1298 dL_law_1299 dL_law_1301 dL_law_1302 dL_law_1303 ?_
  refine law_rd (pc := 1304) X hX hbl hS hl 3 (by decide) (by decide) hi hL dL_law_1304 dL_law_1305 dL_law_1307 dL_law_1308 dL_law_1309 ?_
  refine law_callU (pc := 1310) (ci := 11) (As := [.int (xs (i + 1)), .int (xs (i + 2)), .int (xs (i + 3))]) (rs := []) X hS (SX11_trade_0 l g) vL_127 rfl hS.2.1.1 (by decide) rfl ⟨av_ref hS.2.1.1 (by decide), avi_top _, avi_top _, avi_top _, trivial⟩ rfl rfl hl.1 rfl (Nat.le_of_ble_eq_true rfl) ⟨Nat.le_of_ble_eq_true rfl, Nat.le_of_ble_eq_true rfl⟩ ⟨by omega, by omega⟩ dL_law_1310 rfl rfl (fun x9 H locs hun hS9 => ?_)
  have hC := RC1.keep hC hS.1.1 hS.2.1.1 hun rfl
  have hM := RR1.keep hM hS.1.1 hS.2.1.2.1 hun rfl
  have hD := RCV.keep hD hq.2.1 hS.1.1 hS9.1.1 hS.2.1.1 hun rfl
  have hN := RRV.keep hN hS.1.1 hS.2.1.2.1 hun rfl rfl
  have hE := RCP.keep hE hq.2.2 hS.1.1 hS9.1.1 hS.2.1.1 hun rfl
  have hO := RRP.keep hO hS.1.1 hS.2.1.2.1 hun rfl rfl
  have hY := RMM.keep hY hS.2.1.2.1 hun rfl
  have hJ := RYK.keep hJ hS.1.1 hS.2.1.1 hun rfl
  have hS := hS9
  refine lv_pop (pc := 1313) hx hb dL_law_1313 rfl ?_
  refine lv_aload_n (pc := 1314) hx hb dL_law_1314 rfl (lv_at hl 2 rfl) ?_
  refine law_rd (pc := 1315) X hX hbl hS hl 1 (by decide) (by decide) hi hL dL_law_1315 dL_law_1316 dL_law_1318 dL_law_1319 dL_law_1320 ?_
  refine law_rd (pc := 1321) X hX hbl hS hl 2 (by decide) (by decide) hi hL dL_law_1321 dL_law_1322 dL_law_1324 dL_law_1325 dL_law_1326 ?_
  refine law_rd (pc := 1327) X hX hbl hS hl 3 (by decide) (by decide) hi hL dL_law_1327 dL_law_1328 dL_law_1330 dL_law_1331 dL_law_1332 ?_
  refine law_callU (pc := 1333) (ci := 12) (As := [.int (xs (i + 1)), .int (xs (i + 2)), .int (xs (i + 3))]) (rs := []) X hS (SX12_trade_0 l g) vL_130 rfl hS.2.1.2.1 (by decide) rfl ⟨av_ref hS.2.1.2.1 (by decide), avi_top _, avi_top _, avi_top _, trivial⟩ rfl rfl hl.1 rfl (Nat.le_of_ble_eq_true rfl) ⟨Nat.le_of_ble_eq_true rfl, Nat.le_of_ble_eq_true rfl⟩ ⟨by omega, by omega⟩ dL_law_1333 rfl rfl (fun x9 H locs hun hS9 => ?_)
  have hC := RC1.keep hC hS.1.1 hS.2.1.1 hun rfl
  have hM := RR1.keep hM hS.1.1 hS.2.1.2.1 hun rfl
  have hD := RCV.keep hD hq.2.1 hS.1.1 hS9.1.1 hS.2.1.1 hun rfl
  have hN := RRV.keep hN hS.1.1 hS.2.1.2.1 hun rfl rfl
  have hE := RCP.keep hE hq.2.2 hS.1.1 hS9.1.1 hS.2.1.1 hun rfl
  have hO := RRP.keep hO hS.1.1 hS.2.1.2.1 hun rfl rfl
  have hY := RMM.keep hY hS.2.1.2.1 hun rfl
  have hJ := RYK.keep hJ hS.1.1 hS.2.1.1 hun rfl
  have hS := hS9
  refine lv_pop (pc := 1336) hx hb dL_law_1336 rfl ?_
  refine lv_goto (tgt := 1864) (pc := 1337) hx hb dL_law_1337 rfl ?_
  exact KK _ _ _ _ _ _ q _ _ (by omega) (by omega) hS hq hC hD hE hM hN hO hY hJ hZ (lv_sub hl [0, 1, 2, 3, 4] rfl)

set_option maxHeartbeats 4000000 in
set_option maxRecDepth 100000 in
theorem law_25 {p : Program} {e : Env} {s : State} {m : MethodId} {below : List Frame} {meth : Method} {c : Code} {l : Launch} {b L i C S x0 m0 o0 : Nat} {xs : Nat → Int32} {g : GG} {Γ : Nat → Nat} {H : Heap} {locs : List Loc} {q : RLT} {V : Nat → VV} {P : Nat → PP} {ls : Array Slot} {cells slots : Nat} (X : CTX p l m meth c cL_law 7 s #[Value.ref b] RL g (AL s)) (hr : meth.sig.returnType = ret) (hX : va_X b L xs s s.heap) (hbl : b < s.heap.size) (hL : L ≤ 3072) (hi : i + 6 ≤ L) (hS : LWS g x0 m0 o0 s Γ H locs) (hl : lv_has ls 7 (LO b x0 m0 o0 i)) (hc : cells + 13 ≤ C) (hs : slots + 380 ≤ S) (hcC : C ≤ 601024) (hSl : S ≤ 7293034) (hq : RLW q) (hC : R1c g x0 q H) (hD : RCV g x0 q.2.2.1 V H) (hM : R1m g m0 q H) (hN : RRV g m0 q.2.2.1 V H) (hE : RCP g x0 q.2.2.2 P H) (hO : RRP g m0 q.2.2.2 P H) (hY : RMM g m0 H) (hJ : RYK g x0 H) (hZ : PLX q.2.2.1 V q.2.2.2 P) (KK : LGP p l e s m b below meth c g x0 m0 o0 i C S) : W p l e room_1 s m #[Value.ref b] below meth c H locs cells slots (lw_Z below #[Value.ref b] s) (F0 m 1340 ls []) := by
  have hx := X.1
  have hb := X.2.1
  refine lv_aload_n (pc := 1340) hx hb dL_law_1340 rfl (lv_at hl 1 rfl) ?_
  refine law_rd (pc := 1341) X hX hbl hS hl 1 (by decide) (by decide) hi hL dL_law_1341 dL_law_1342 dL_law_1344 dL_law_1345 dL_law_1346 ?_
  refine law_rd (pc := 1347) X hX hbl hS hl 2 (by decide) (by decide) hi hL dL_law_1347 dL_law_1348 dL_law_1350 dL_law_1351 dL_law_1352 ?_
  refine law_rd (pc := 1353) X hX hbl hS hl 3 (by decide) (by decide) hi hL dL_law_1353 dL_law_1354 dL_law_1356 dL_law_1357 dL_law_1358 ?_
  refine law_callE (pc := 1359) (ci := 11) (As := [.int (xs (i + 1)), .int (xs (i + 2)), .int (xs (i + 3))]) (rs := []) X hS (E11_cardV hS.1.2.1 hq.2.1 hS.2.1.1 (xs (i + 1)) (xs (i + 2)) (xs (i + 3))) vL_131 rfl hS.2.1.1 (by decide) rfl ⟨hC, hD⟩ rfl hl.1 rfl (Nat.le_of_ble_eq_true rfl) ⟨Nat.le_of_ble_eq_true rfl, Nat.le_of_ble_eq_true rfl⟩ ⟨by omega, by omega⟩ dL_law_1359 rfl rfl (fun x9 H locs hp hun hS9 => ?_)
  obtain ⟨hx9, hN9⟩ := hp
  obtain rfl := Value.int.inj hx9
  have hC := RC1.keep hC hS.1.1 hS.2.1.1 hun rfl
  have hM := RR1.keep hM hS.1.1 hS.2.1.2.1 hun rfl
  have hN := RRV.keep hN hS.1.1 hS.2.1.2.1 hun rfl rfl
  have hE := RCP.keep hE hq.2.2 hS.1.1 hS9.1.1 hS.2.1.1 hun rfl
  have hO := RRP.keep hO hS.1.1 hS.2.1.2.1 hun rfl rfl
  have hY := RMM.keep hY hS.2.1.2.1 hun rfl
  have hJ := RYK.keep hJ hS.1.1 hS.2.1.1 hun rfl
  have hD := hN9
  have hS := hS9
  refine lv_pop (pc := 1362) hx hb dL_law_1362 rfl ?_
  refine lv_aload_n (pc := 1363) hx hb dL_law_1363 rfl (lv_at hl 2 rfl) ?_
  refine law_rd (pc := 1364) X hX hbl hS hl 1 (by decide) (by decide) hi hL dL_law_1364 dL_law_1365 dL_law_1367 dL_law_1368 dL_law_1369 ?_
  refine law_rd (pc := 1370) X hX hbl hS hl 2 (by decide) (by decide) hi hL dL_law_1370 dL_law_1371 dL_law_1373 dL_law_1374 dL_law_1375 ?_
  refine law_rd (pc := 1376) X hX hbl hS hl 3 (by decide) (by decide) hi hL dL_law_1376 dL_law_1377 dL_law_1379 dL_law_1380 dL_law_1381 ?_
  refine law_callE (pc := 1382) (ci := 12) (As := [.int (xs (i + 1)), .int (xs (i + 2)), .int (xs (i + 3))]) (rs := []) X hS (E12_cardV hS.1.2.1 hq.2.1 hS.2.1.2.1 (xs (i + 1)) (xs (i + 2)) (xs (i + 3))) vL_134 rfl hS.2.1.2.1 (by decide) rfl ⟨hM, hN⟩ rfl hl.1 rfl (Nat.le_of_ble_eq_true rfl) ⟨Nat.le_of_ble_eq_true rfl, Nat.le_of_ble_eq_true rfl⟩ ⟨by omega, by omega⟩ dL_law_1382 rfl rfl (fun x9 H locs hp hun hS9 => ?_)
  obtain ⟨hx9, hN9⟩ := hp
  obtain rfl := Value.int.inj hx9
  have hC := RC1.keep hC hS.1.1 hS.2.1.1 hun rfl
  have hM := RR1.keep hM hS.1.1 hS.2.1.2.1 hun rfl
  have hD := RCV.keep hD hq.2.1 hS.1.1 hS9.1.1 hS.2.1.1 hun rfl
  have hE := RCP.keep hE hq.2.2 hS.1.1 hS9.1.1 hS.2.1.1 hun rfl
  have hO := RRP.keep hO hS.1.1 hS.2.1.2.1 hun rfl rfl
  have hY := RMM.keep hY hS.2.1.2.1 hun rfl
  have hJ := RYK.keep hJ hS.1.1 hS.2.1.1 hun rfl
  have hN := hN9
  have hS := hS9
  refine lv_pop (pc := 1385) hx hb dL_law_1385 rfl ?_
  refine lv_goto (tgt := 1864) (pc := 1386) hx hb dL_law_1386 rfl ?_
  exact KK _ _ _ _ _ _ q _ _ (by omega) (by omega) hS hq hC hD hE hM hN hO hY hJ (plx_vnew hZ (fun _ => rfl) (fun _ h => h)) (lv_sub hl [0, 1, 2, 3, 4] rfl)

set_option maxHeartbeats 4000000 in
set_option maxRecDepth 100000 in
theorem law_26 {p : Program} {e : Env} {s : State} {m : MethodId} {below : List Frame} {meth : Method} {c : Code} {l : Launch} {b L i C S x0 m0 o0 : Nat} {xs : Nat → Int32} {g : GG} {Γ : Nat → Nat} {H : Heap} {locs : List Loc} {q : RLT} {V : Nat → VV} {P : Nat → PP} {ls : Array Slot} {cells slots : Nat} (X : CTX p l m meth c cL_law 7 s #[Value.ref b] RL g (AL s)) (hr : meth.sig.returnType = ret) (hX : va_X b L xs s s.heap) (hbl : b < s.heap.size) (hL : L ≤ 3072) (hi : i + 6 ≤ L) (hS : LWS g x0 m0 o0 s Γ H locs) (hl : lv_has ls 7 (LO b x0 m0 o0 i)) (hc : cells + 13 ≤ C) (hs : slots + 380 ≤ S) (hcC : C ≤ 601024) (hSl : S ≤ 7293034) (hq : RLW q) (hC : R1c g x0 q H) (hD : RCV g x0 q.2.2.1 V H) (hM : R1m g m0 q H) (hN : RRV g m0 q.2.2.1 V H) (hE : RCP g x0 q.2.2.2 P H) (hO : RRP g m0 q.2.2.2 P H) (hY : RMM g m0 H) (hJ : RYK g x0 H) (hZ : PLX q.2.2.1 V q.2.2.2 P) (KK : LGP p l e s m b below meth c g x0 m0 o0 i C S) : W p l e room_1 s m #[Value.ref b] below meth c H locs cells slots (lw_Z below #[Value.ref b] s) (F0 m 1389 ls []) := by
  have hx := X.1
  have hb := X.2.1
  refine lv_aload_n (pc := 1389) hx hb dL_law_1389 rfl (lv_at hl 1 rfl) ?_
  refine law_rd (pc := 1390) X hX hbl hS hl 1 (by decide) (by decide) hi hL dL_law_1390 dL_law_1391 dL_law_1393 dL_law_1394 dL_law_1395 ?_
  refine law_callE (pc := 1396) (ci := 11) (As := [.int (xs (i + 1))]) (rs := []) X hS (E11_blankV hS.1.2.1 hq.2.1 hS.2.1.1 (xs (i + 1))) vL_135 rfl hS.2.1.1 (by decide) rfl ⟨hC, hD⟩ rfl hl.1 rfl (Nat.le_of_ble_eq_true rfl) ⟨Nat.le_of_ble_eq_true rfl, Nat.le_of_ble_eq_true rfl⟩ ⟨by omega, by omega⟩ dL_law_1396 rfl rfl (fun x9 H locs hp hun hS9 => ?_)
  obtain ⟨hx9, hN9⟩ := hp
  obtain rfl := Value.int.inj hx9
  have hC := RC1.keep hC hS.1.1 hS.2.1.1 hun rfl
  have hM := RR1.keep hM hS.1.1 hS.2.1.2.1 hun rfl
  have hN := RRV.keep hN hS.1.1 hS.2.1.2.1 hun rfl rfl
  have hE := RCP.keep hE hq.2.2 hS.1.1 hS9.1.1 hS.2.1.1 hun rfl
  have hO := RRP.keep hO hS.1.1 hS.2.1.2.1 hun rfl rfl
  have hY := RMM.keep hY hS.2.1.2.1 hun rfl
  have hJ := RYK.keep hJ hS.1.1 hS.2.1.1 hun rfl
  have hD := hN9
  have hS := hS9
  refine lv_pop (pc := 1399) hx hb dL_law_1399 rfl ?_
  refine lv_aload_n (pc := 1400) hx hb dL_law_1400 rfl (lv_at hl 2 rfl) ?_
  refine law_rd (pc := 1401) X hX hbl hS hl 1 (by decide) (by decide) hi hL dL_law_1401 dL_law_1402 dL_law_1404 dL_law_1405 dL_law_1406 ?_
  refine law_callE (pc := 1407) (ci := 12) (As := [.int (xs (i + 1))]) (rs := []) X hS (E12_blankV hS.1.2.1 hq.2.1 hS.2.1.2.1 (xs (i + 1))) vL_138 rfl hS.2.1.2.1 (by decide) rfl ⟨hM, hN⟩ rfl hl.1 rfl (Nat.le_of_ble_eq_true rfl) ⟨Nat.le_of_ble_eq_true rfl, Nat.le_of_ble_eq_true rfl⟩ ⟨by omega, by omega⟩ dL_law_1407 rfl rfl (fun x9 H locs hp hun hS9 => ?_)
  obtain ⟨hx9, hN9⟩ := hp
  obtain rfl := Value.int.inj hx9
  have hC := RC1.keep hC hS.1.1 hS.2.1.1 hun rfl
  have hM := RR1.keep hM hS.1.1 hS.2.1.2.1 hun rfl
  have hD := RCV.keep hD hq.2.1 hS.1.1 hS9.1.1 hS.2.1.1 hun rfl
  have hE := RCP.keep hE hq.2.2 hS.1.1 hS9.1.1 hS.2.1.1 hun rfl
  have hO := RRP.keep hO hS.1.1 hS.2.1.2.1 hun rfl rfl
  have hY := RMM.keep hY hS.2.1.2.1 hun rfl
  have hJ := RYK.keep hJ hS.1.1 hS.2.1.1 hun rfl
  have hN := hN9
  have hS := hS9
  refine lv_pop (pc := 1410) hx hb dL_law_1410 rfl ?_
  refine lv_goto (tgt := 1864) (pc := 1411) hx hb dL_law_1411 rfl ?_
  exact KK _ _ _ _ _ _ q _ _ (by omega) (by omega) hS hq hC hD hE hM hN hO hY hJ (plx_vnew hZ (fun _ => rfl) (fun _ h => h)) (lv_sub hl [0, 1, 2, 3, 4] rfl)

set_option maxHeartbeats 4000000 in
set_option maxRecDepth 100000 in
theorem law_27 {p : Program} {e : Env} {s : State} {m : MethodId} {below : List Frame} {meth : Method} {c : Code} {l : Launch} {b L i C S x0 m0 o0 : Nat} {xs : Nat → Int32} {g : GG} {Γ : Nat → Nat} {H : Heap} {locs : List Loc} {q : RLT} {V : Nat → VV} {P : Nat → PP} {ls : Array Slot} {cells slots : Nat} (X : CTX p l m meth c cL_law 7 s #[Value.ref b] RL g (AL s)) (hr : meth.sig.returnType = ret) (hX : va_X b L xs s s.heap) (hbl : b < s.heap.size) (hL : L ≤ 3072) (hi : i + 6 ≤ L) (hS : LWS g x0 m0 o0 s Γ H locs) (hl : lv_has ls 7 (LO b x0 m0 o0 i)) (hc : cells + 13 ≤ C) (hs : slots + 380 ≤ S) (hcC : C ≤ 601024) (hSl : S ≤ 7293034) (hq : RLW q) (hC : R1c g x0 q H) (hD : RCV g x0 q.2.2.1 V H) (hM : R1m g m0 q H) (hN : RRV g m0 q.2.2.1 V H) (hE : RCP g x0 q.2.2.2 P H) (hO : RRP g m0 q.2.2.2 P H) (hY : RMM g m0 H) (hJ : RYK g x0 H) (hZ : PLX q.2.2.1 V q.2.2.2 P) (KK : LGP p l e s m b below meth c g x0 m0 o0 i C S) : W p l e room_1 s m #[Value.ref b] below meth c H locs cells slots (lw_Z below #[Value.ref b] s) (F0 m 1414 ls []) := by
  have hx := X.1
  have hb := X.2.1
  refine lv_aload_n (pc := 1414) hx hb dL_law_1414 rfl (lv_at hl 1 rfl) ?_
  refine law_rd (pc := 1415) X hX hbl hS hl 1 (by decide) (by decide) hi hL dL_law_1415 dL_law_1416 dL_law_1418 dL_law_1419 dL_law_1420 ?_
  refine law_rd (pc := 1421) X hX hbl hS hl 2 (by decide) (by decide) hi hL dL_law_1421 dL_law_1422 dL_law_1424 dL_law_1425 dL_law_1426 ?_
  refine law_callU (pc := 1427) (ci := 11) (As := [.int (xs (i + 1)), .int (xs (i + 2))]) (rs := []) X hS (SX11_kept_0 l g) vL_139 rfl hS.2.1.1 (by decide) rfl ⟨av_ref hS.2.1.1 (by decide), avi_top _, avi_top _, trivial⟩ rfl rfl hl.1 rfl (Nat.le_of_ble_eq_true rfl) ⟨Nat.le_of_ble_eq_true rfl, Nat.le_of_ble_eq_true rfl⟩ ⟨by omega, by omega⟩ dL_law_1427 rfl rfl (fun x9 H locs hun hS9 => ?_)
  have hC := RC1.keep hC hS.1.1 hS.2.1.1 hun rfl
  have hM := RR1.keep hM hS.1.1 hS.2.1.2.1 hun rfl
  have hD := RCV.keep hD hq.2.1 hS.1.1 hS9.1.1 hS.2.1.1 hun rfl
  have hN := RRV.keep hN hS.1.1 hS.2.1.2.1 hun rfl rfl
  have hE := RCP.keep hE hq.2.2 hS.1.1 hS9.1.1 hS.2.1.1 hun rfl
  have hO := RRP.keep hO hS.1.1 hS.2.1.2.1 hun rfl rfl
  have hY := RMM.keep hY hS.2.1.2.1 hun rfl
  have hJ := RYK.keep hJ hS.1.1 hS.2.1.1 hun rfl
  have hS := hS9
  refine lv_pop (pc := 1430) hx hb dL_law_1430 rfl ?_
  refine lv_aload_n (pc := 1431) hx hb dL_law_1431 rfl (lv_at hl 2 rfl) ?_
  refine law_rd (pc := 1432) X hX hbl hS hl 1 (by decide) (by decide) hi hL dL_law_1432 dL_law_1433 dL_law_1435 dL_law_1436 dL_law_1437 ?_
  refine law_rd (pc := 1438) X hX hbl hS hl 2 (by decide) (by decide) hi hL dL_law_1438 dL_law_1439 dL_law_1441 dL_law_1442 dL_law_1443 ?_
  refine law_callU (pc := 1444) (ci := 12) (As := [.int (xs (i + 1)), .int (xs (i + 2))]) (rs := []) X hS (SX12_kept_h0 l g) vL_142 rfl hS.2.1.2.1 (by decide) rfl ⟨av_ref hS.2.1.2.1 (by decide), avi_top _, avi_top _, trivial⟩ rfl rfl hl.1 rfl (Nat.le_of_ble_eq_true rfl) ⟨Nat.le_of_ble_eq_true rfl, Nat.le_of_ble_eq_true rfl⟩ ⟨by omega, by omega⟩ dL_law_1444 rfl rfl (fun x9 H locs hun hS9 => ?_)
  have hC := RC1.keep hC hS.1.1 hS.2.1.1 hun rfl
  have hM := RR1.keep hM hS.1.1 hS.2.1.2.1 hun rfl
  have hD := RCV.keep hD hq.2.1 hS.1.1 hS9.1.1 hS.2.1.1 hun rfl
  have hN := RRV.keep hN hS.1.1 hS.2.1.2.1 hun rfl rfl
  have hE := RCP.keep hE hq.2.2 hS.1.1 hS9.1.1 hS.2.1.1 hun rfl
  have hO := RRP.keep hO hS.1.1 hS.2.1.2.1 hun rfl rfl
  have hY := RMM.keep hY hS.2.1.2.1 hun rfl
  have hJ := RYK.keep hJ hS.1.1 hS.2.1.1 hun rfl
  have hS := hS9
  refine lv_pop (pc := 1447) hx hb dL_law_1447 rfl ?_
  refine lv_goto (tgt := 1864) (pc := 1448) hx hb dL_law_1448 rfl ?_
  exact KK _ _ _ _ _ _ q _ _ (by omega) (by omega) hS hq hC hD hE hM hN hO hY hJ hZ (lv_sub hl [0, 1, 2, 3, 4] rfl)

set_option maxHeartbeats 4000000 in
set_option maxRecDepth 100000 in
theorem law_28 {p : Program} {e : Env} {s : State} {m : MethodId} {below : List Frame} {meth : Method} {c : Code} {l : Launch} {b L i C S x0 m0 o0 : Nat} {xs : Nat → Int32} {g : GG} {Γ : Nat → Nat} {H : Heap} {locs : List Loc} {q : RLT} {V : Nat → VV} {P : Nat → PP} {ls : Array Slot} {cells slots : Nat} (X : CTX p l m meth c cL_law 7 s #[Value.ref b] RL g (AL s)) (hr : meth.sig.returnType = ret) (hX : va_X b L xs s s.heap) (hbl : b < s.heap.size) (hL : L ≤ 3072) (hi : i + 6 ≤ L) (hS : LWS g x0 m0 o0 s Γ H locs) (hl : lv_has ls 7 (LO b x0 m0 o0 i)) (hc : cells + 13 ≤ C) (hs : slots + 380 ≤ S) (hcC : C ≤ 601024) (hSl : S ≤ 7293034) (hq : RLW q) (hC : R1c g x0 q H) (hD : RCV g x0 q.2.2.1 V H) (hM : R1m g m0 q H) (hN : RRV g m0 q.2.2.1 V H) (hE : RCP g x0 q.2.2.2 P H) (hO : RRP g m0 q.2.2.2 P H) (hY : RMM g m0 H) (hJ : RYK g x0 H) (hZ : PLX q.2.2.1 V q.2.2.2 P) (KK : LGP p l e s m b below meth c g x0 m0 o0 i C S) : W p l e room_1 s m #[Value.ref b] below meth c H locs cells slots (lw_Z below #[Value.ref b] s) (F0 m 1451 ls []) := by
  have hx := X.1
  have hb := X.2.1
  refine lv_aload_n (pc := 1451) hx hb dL_law_1451 rfl (lv_at hl 1 rfl) ?_
  refine law_rd (pc := 1452) X hX hbl hS hl 1 (by decide) (by decide) hi hL dL_law_1452 dL_law_1453 dL_law_1455 dL_law_1456 dL_law_1457 ?_
  refine law_rd (pc := 1458) X hX hbl hS hl 2 (by decide) (by decide) hi hL dL_law_1458 dL_law_1459 dL_law_1461 dL_law_1462 dL_law_1463 ?_
  refine law_rd (pc := 1464) X hX hbl hS hl 3 (by decide) (by decide) hi hL dL_law_1464 dL_law_1465 dL_law_1467 dL_law_1468 dL_law_1469 ?_
  refine law_rd (pc := 1470) X hX hbl hS hl 4 (by decide) (by decide) hi hL dL_law_1470 dL_law_1471 dL_law_1473 dL_law_1474 dL_law_1475 ?_
  refine law_callU (pc := 1476) (ci := 11) (As := [.int (xs (i + 1)), .int (xs (i + 2)), .int (xs (i + 3)), .int (xs (i + 4))]) (rs := []) X hS (SX11_tree_0 l g) vL_143 rfl hS.2.1.1 (by decide) rfl ⟨av_ref hS.2.1.1 (by decide), avi_top _, avi_top _, avi_top _, avi_top _, trivial⟩ rfl rfl hl.1 rfl (Nat.le_of_ble_eq_true rfl) ⟨Nat.le_of_ble_eq_true rfl, Nat.le_of_ble_eq_true rfl⟩ ⟨by omega, by omega⟩ dL_law_1476 rfl rfl (fun x9 H locs hun hS9 => ?_)
  have hC := RC1.keep hC hS.1.1 hS.2.1.1 hun rfl
  have hM := RR1.keep hM hS.1.1 hS.2.1.2.1 hun rfl
  have hD := RCV.keep hD hq.2.1 hS.1.1 hS9.1.1 hS.2.1.1 hun rfl
  have hN := RRV.keep hN hS.1.1 hS.2.1.2.1 hun rfl rfl
  have hE := RCP.keep hE hq.2.2 hS.1.1 hS9.1.1 hS.2.1.1 hun rfl
  have hO := RRP.keep hO hS.1.1 hS.2.1.2.1 hun rfl rfl
  have hY := RMM.keep hY hS.2.1.2.1 hun rfl
  have hJ := RYK.keep hJ hS.1.1 hS.2.1.1 hun rfl
  have hS := hS9
  refine lv_pop (pc := 1479) hx hb dL_law_1479 rfl ?_
  refine lv_aload_n (pc := 1480) hx hb dL_law_1480 rfl (lv_at hl 2 rfl) ?_
  refine law_rd (pc := 1481) X hX hbl hS hl 1 (by decide) (by decide) hi hL dL_law_1481 dL_law_1482 dL_law_1484 dL_law_1485 dL_law_1486 ?_
  refine law_rd (pc := 1487) X hX hbl hS hl 2 (by decide) (by decide) hi hL dL_law_1487 dL_law_1488 dL_law_1490 dL_law_1491 dL_law_1492 ?_
  refine law_rd (pc := 1493) X hX hbl hS hl 3 (by decide) (by decide) hi hL dL_law_1493 dL_law_1494 dL_law_1496 dL_law_1497 dL_law_1498 ?_
  refine law_rd (pc := 1499) X hX hbl hS hl 4 (by decide) (by decide) hi hL dL_law_1499 dL_law_1500 dL_law_1502 dL_law_1503 dL_law_1504 ?_
  refine law_callU (pc := 1505) (ci := 12) (As := [.int (xs (i + 1)), .int (xs (i + 2)), .int (xs (i + 3)), .int (xs (i + 4))]) (rs := []) X hS (SX12_tree_h0 l g) vL_146 rfl hS.2.1.2.1 (by decide) rfl ⟨av_ref hS.2.1.2.1 (by decide), avi_top _, avi_top _, avi_top _, avi_top _, trivial⟩ rfl rfl hl.1 rfl (Nat.le_of_ble_eq_true rfl) ⟨Nat.le_of_ble_eq_true rfl, Nat.le_of_ble_eq_true rfl⟩ ⟨by omega, by omega⟩ dL_law_1505 rfl rfl (fun x9 H locs hun hS9 => ?_)
  have hC := RC1.keep hC hS.1.1 hS.2.1.1 hun rfl
  have hM := RR1.keep hM hS.1.1 hS.2.1.2.1 hun rfl
  have hD := RCV.keep hD hq.2.1 hS.1.1 hS9.1.1 hS.2.1.1 hun rfl
  have hN := RRV.keep hN hS.1.1 hS.2.1.2.1 hun rfl rfl
  have hE := RCP.keep hE hq.2.2 hS.1.1 hS9.1.1 hS.2.1.1 hun rfl
  have hO := RRP.keep hO hS.1.1 hS.2.1.2.1 hun rfl rfl
  have hY := RMM.keep hY hS.2.1.2.1 hun rfl
  have hJ := RYK.keep hJ hS.1.1 hS.2.1.1 hun rfl
  have hS := hS9
  refine lv_pop (pc := 1508) hx hb dL_law_1508 rfl ?_
  refine lv_goto (tgt := 1864) (pc := 1509) hx hb dL_law_1509 rfl ?_
  exact KK _ _ _ _ _ _ q _ _ (by omega) (by omega) hS hq hC hD hE hM hN hO hY hJ hZ (lv_sub hl [0, 1, 2, 3, 4] rfl)

set_option maxHeartbeats 4000000 in
set_option maxRecDepth 100000 in
theorem law_29 {p : Program} {e : Env} {s : State} {m : MethodId} {below : List Frame} {meth : Method} {c : Code} {l : Launch} {b L i C S x0 m0 o0 : Nat} {xs : Nat → Int32} {g : GG} {Γ : Nat → Nat} {H : Heap} {locs : List Loc} {q : RLT} {V : Nat → VV} {P : Nat → PP} {ls : Array Slot} {cells slots : Nat} (X : CTX p l m meth c cL_law 7 s #[Value.ref b] RL g (AL s)) (hr : meth.sig.returnType = ret) (hX : va_X b L xs s s.heap) (hbl : b < s.heap.size) (hL : L ≤ 3072) (hi : i + 6 ≤ L) (hS : LWS g x0 m0 o0 s Γ H locs) (hl : lv_has ls 7 (LO b x0 m0 o0 i)) (hc : cells + 13 ≤ C) (hs : slots + 380 ≤ S) (hcC : C ≤ 601024) (hSl : S ≤ 7293034) (hq : RLW q) (hC : R1c g x0 q H) (hD : RCV g x0 q.2.2.1 V H) (hM : R1m g m0 q H) (hN : RRV g m0 q.2.2.1 V H) (hE : RCP g x0 q.2.2.2 P H) (hO : RRP g m0 q.2.2.2 P H) (hY : RMM g m0 H) (hJ : RYK g x0 H) (hZ : PLX q.2.2.1 V q.2.2.2 P) (KK : LGP p l e s m b below meth c g x0 m0 o0 i C S) : W p l e room_1 s m #[Value.ref b] below meth c H locs cells slots (lw_Z below #[Value.ref b] s) (F0 m 1512 ls []) := by
  have hx := X.1
  have hb := X.2.1
  refine lv_aload_n (pc := 1512) hx hb dL_law_1512 rfl (lv_at hl 1 rfl) ?_
  refine law_rd (pc := 1513) X hX hbl hS hl 1 (by decide) (by decide) hi hL dL_law_1513 dL_law_1514 dL_law_1516 dL_law_1517 dL_law_1518 ?_
  refine law_rd (pc := 1519) X hX hbl hS hl 2 (by decide) (by decide) hi hL dL_law_1519 dL_law_1520 dL_law_1522 dL_law_1523 dL_law_1524 ?_
  refine law_callU (pc := 1525) (ci := 11) (As := [.int (xs (i + 1)), .int (xs (i + 2))]) (rs := []) X hS (SX11_breaks_0 l g) vL_147 rfl hS.2.1.1 (by decide) rfl ⟨av_ref hS.2.1.1 (by decide), avi_top _, avi_top _, trivial⟩ rfl rfl hl.1 rfl (Nat.le_of_ble_eq_true rfl) ⟨Nat.le_of_ble_eq_true rfl, Nat.le_of_ble_eq_true rfl⟩ ⟨by omega, by omega⟩ dL_law_1525 rfl rfl (fun x9 H locs hun hS9 => ?_)
  have hC := RC1.keep hC hS.1.1 hS.2.1.1 hun rfl
  have hM := RR1.keep hM hS.1.1 hS.2.1.2.1 hun rfl
  have hD := RCV.keep hD hq.2.1 hS.1.1 hS9.1.1 hS.2.1.1 hun rfl
  have hN := RRV.keep hN hS.1.1 hS.2.1.2.1 hun rfl rfl
  have hE := RCP.keep hE hq.2.2 hS.1.1 hS9.1.1 hS.2.1.1 hun rfl
  have hO := RRP.keep hO hS.1.1 hS.2.1.2.1 hun rfl rfl
  have hY := RMM.keep hY hS.2.1.2.1 hun rfl
  have hJ := RYK.keep hJ hS.1.1 hS.2.1.1 hun rfl
  have hS := hS9
  refine lv_pop (pc := 1528) hx hb dL_law_1528 rfl ?_
  refine lv_aload_n (pc := 1529) hx hb dL_law_1529 rfl (lv_at hl 2 rfl) ?_
  refine law_rd (pc := 1530) X hX hbl hS hl 1 (by decide) (by decide) hi hL dL_law_1530 dL_law_1531 dL_law_1533 dL_law_1534 dL_law_1535 ?_
  refine law_rd (pc := 1536) X hX hbl hS hl 2 (by decide) (by decide) hi hL dL_law_1536 dL_law_1537 dL_law_1539 dL_law_1540 dL_law_1541 ?_
  refine law_callU (pc := 1542) (ci := 12) (As := [.int (xs (i + 1)), .int (xs (i + 2))]) (rs := []) X hS (SX12_breaks_0 l g) vL_150 rfl hS.2.1.2.1 (by decide) rfl ⟨av_ref hS.2.1.2.1 (by decide), avi_top _, avi_top _, trivial⟩ rfl rfl hl.1 rfl (Nat.le_of_ble_eq_true rfl) ⟨Nat.le_of_ble_eq_true rfl, Nat.le_of_ble_eq_true rfl⟩ ⟨by omega, by omega⟩ dL_law_1542 rfl rfl (fun x9 H locs hun hS9 => ?_)
  have hC := RC1.keep hC hS.1.1 hS.2.1.1 hun rfl
  have hM := RR1.keep hM hS.1.1 hS.2.1.2.1 hun rfl
  have hD := RCV.keep hD hq.2.1 hS.1.1 hS9.1.1 hS.2.1.1 hun rfl
  have hN := RRV.keep hN hS.1.1 hS.2.1.2.1 hun rfl rfl
  have hE := RCP.keep hE hq.2.2 hS.1.1 hS9.1.1 hS.2.1.1 hun rfl
  have hO := RRP.keep hO hS.1.1 hS.2.1.2.1 hun rfl rfl
  have hY := RMM.keep hY hS.2.1.2.1 hun rfl
  have hJ := RYK.keep hJ hS.1.1 hS.2.1.1 hun rfl
  have hS := hS9
  refine lv_pop (pc := 1545) hx hb dL_law_1545 rfl ?_
  refine lv_goto (tgt := 1864) (pc := 1546) hx hb dL_law_1546 rfl ?_
  exact KK _ _ _ _ _ _ q _ _ (by omega) (by omega) hS hq hC hD hE hM hN hO hY hJ hZ (lv_sub hl [0, 1, 2, 3, 4] rfl)

set_option maxHeartbeats 4000000 in
set_option maxRecDepth 100000 in
theorem law_30 {p : Program} {e : Env} {s : State} {m : MethodId} {below : List Frame} {meth : Method} {c : Code} {l : Launch} {b L i C S x0 m0 o0 : Nat} {xs : Nat → Int32} {g : GG} {Γ : Nat → Nat} {H : Heap} {locs : List Loc} {q : RLT} {V : Nat → VV} {P : Nat → PP} {ls : Array Slot} {cells slots : Nat} (X : CTX p l m meth c cL_law 7 s #[Value.ref b] RL g (AL s)) (hr : meth.sig.returnType = ret) (hX : va_X b L xs s s.heap) (hbl : b < s.heap.size) (hL : L ≤ 3072) (hi : i + 6 ≤ L) (hS : LWS g x0 m0 o0 s Γ H locs) (hl : lv_has ls 7 (LO b x0 m0 o0 i)) (hc : cells + 13 ≤ C) (hs : slots + 380 ≤ S) (hcC : C ≤ 601024) (hSl : S ≤ 7293034) (hq : RLW q) (hC : R1c g x0 q H) (hD : RCV g x0 q.2.2.1 V H) (hM : R1m g m0 q H) (hN : RRV g m0 q.2.2.1 V H) (hE : RCP g x0 q.2.2.2 P H) (hO : RRP g m0 q.2.2.2 P H) (hY : RMM g m0 H) (hJ : RYK g x0 H) (hZ : PLX q.2.2.1 V q.2.2.2 P) (KK : LGP p l e s m b below meth c g x0 m0 o0 i C S) : W p l e room_1 s m #[Value.ref b] below meth c H locs cells slots (lw_Z below #[Value.ref b] s) (F0 m 1549 ls []) := by
  have hx := X.1
  have hb := X.2.1
  refine lv_aload_n (pc := 1549) hx hb dL_law_1549 rfl (lv_at hl 1 rfl) ?_
  refine law_rd (pc := 1550) X hX hbl hS hl 1 (by decide) (by decide) hi hL dL_law_1550 dL_law_1551 dL_law_1553 dL_law_1554 dL_law_1555 ?_
  refine law_callU (pc := 1556) (ci := 11) (As := [.int (xs (i + 1))]) (rs := []) X hS (SX11_breaker_0 l g) vL_151 rfl hS.2.1.1 (by decide) rfl ⟨av_ref hS.2.1.1 (by decide), avi_top _, trivial⟩ rfl rfl hl.1 rfl (Nat.le_of_ble_eq_true rfl) ⟨Nat.le_of_ble_eq_true rfl, Nat.le_of_ble_eq_true rfl⟩ ⟨by omega, by omega⟩ dL_law_1556 rfl rfl (fun x9 H locs hun hS9 => ?_)
  have hC := RC1.keep hC hS.1.1 hS.2.1.1 hun rfl
  have hM := RR1.keep hM hS.1.1 hS.2.1.2.1 hun rfl
  have hD := RCV.keep hD hq.2.1 hS.1.1 hS9.1.1 hS.2.1.1 hun rfl
  have hN := RRV.keep hN hS.1.1 hS.2.1.2.1 hun rfl rfl
  have hE := RCP.keep hE hq.2.2 hS.1.1 hS9.1.1 hS.2.1.1 hun rfl
  have hO := RRP.keep hO hS.1.1 hS.2.1.2.1 hun rfl rfl
  have hY := RMM.keep hY hS.2.1.2.1 hun rfl
  have hJ := RYK.keep hJ hS.1.1 hS.2.1.1 hun rfl
  have hS := hS9
  refine lv_pop (pc := 1559) hx hb dL_law_1559 rfl ?_
  refine lv_aload_n (pc := 1560) hx hb dL_law_1560 rfl (lv_at hl 2 rfl) ?_
  refine law_rd (pc := 1561) X hX hbl hS hl 1 (by decide) (by decide) hi hL dL_law_1561 dL_law_1562 dL_law_1564 dL_law_1565 dL_law_1566 ?_
  refine law_callU (pc := 1567) (ci := 12) (As := [.int (xs (i + 1))]) (rs := []) X hS (SX12_breaker_0 l g) vL_154 rfl hS.2.1.2.1 (by decide) rfl ⟨av_ref hS.2.1.2.1 (by decide), avi_top _, trivial⟩ rfl rfl hl.1 rfl (Nat.le_of_ble_eq_true rfl) ⟨Nat.le_of_ble_eq_true rfl, Nat.le_of_ble_eq_true rfl⟩ ⟨by omega, by omega⟩ dL_law_1567 rfl rfl (fun x9 H locs hun hS9 => ?_)
  have hC := RC1.keep hC hS.1.1 hS.2.1.1 hun rfl
  have hM := RR1.keep hM hS.1.1 hS.2.1.2.1 hun rfl
  have hD := RCV.keep hD hq.2.1 hS.1.1 hS9.1.1 hS.2.1.1 hun rfl
  have hN := RRV.keep hN hS.1.1 hS.2.1.2.1 hun rfl rfl
  have hE := RCP.keep hE hq.2.2 hS.1.1 hS9.1.1 hS.2.1.1 hun rfl
  have hO := RRP.keep hO hS.1.1 hS.2.1.2.1 hun rfl rfl
  have hY := RMM.keep hY hS.2.1.2.1 hun rfl
  have hJ := RYK.keep hJ hS.1.1 hS.2.1.1 hun rfl
  have hS := hS9
  refine lv_pop (pc := 1570) hx hb dL_law_1570 rfl ?_
  refine lv_goto (tgt := 1864) (pc := 1571) hx hb dL_law_1571 rfl ?_
  exact KK _ _ _ _ _ _ q _ _ (by omega) (by omega) hS hq hC hD hE hM hN hO hY hJ hZ (lv_sub hl [0, 1, 2, 3, 4] rfl)

set_option maxHeartbeats 4000000 in
set_option maxRecDepth 100000 in
theorem law_31 {p : Program} {e : Env} {s : State} {m : MethodId} {below : List Frame} {meth : Method} {c : Code} {l : Launch} {b L i C S x0 m0 o0 : Nat} {xs : Nat → Int32} {g : GG} {Γ : Nat → Nat} {H : Heap} {locs : List Loc} {q : RLT} {V : Nat → VV} {P : Nat → PP} {ls : Array Slot} {cells slots : Nat} (X : CTX p l m meth c cL_law 7 s #[Value.ref b] RL g (AL s)) (hr : meth.sig.returnType = ret) (hX : va_X b L xs s s.heap) (hbl : b < s.heap.size) (hL : L ≤ 3072) (hi : i + 6 ≤ L) (hS : LWS g x0 m0 o0 s Γ H locs) (hl : lv_has ls 7 (LO b x0 m0 o0 i)) (hc : cells + 13 ≤ C) (hs : slots + 380 ≤ S) (hcC : C ≤ 601024) (hSl : S ≤ 7293034) (hq : RLW q) (hC : R1c g x0 q H) (hD : RCV g x0 q.2.2.1 V H) (hM : R1m g m0 q H) (hN : RRV g m0 q.2.2.1 V H) (hE : RCP g x0 q.2.2.2 P H) (hO : RRP g m0 q.2.2.2 P H) (hY : RMM g m0 H) (hJ : RYK g x0 H) (hZ : PLX q.2.2.1 V q.2.2.2 P) (KK : LGP p l e s m b below meth c g x0 m0 o0 i C S) : W p l e room_1 s m #[Value.ref b] below meth c H locs cells slots (lw_Z below #[Value.ref b] s) (F0 m 1574 ls []) := by
  have hx := X.1
  have hb := X.2.1
  refine lv_aload_n (pc := 1574) hx hb dL_law_1574 rfl (lv_at hl 1 rfl) ?_
  refine law_rd (pc := 1575) X hX hbl hS hl 1 (by decide) (by decide) hi hL dL_law_1575 dL_law_1576 dL_law_1578 dL_law_1579 dL_law_1580 ?_
  refine law_rd (pc := 1581) X hX hbl hS hl 2 (by decide) (by decide) hi hL dL_law_1581 dL_law_1582 dL_law_1584 dL_law_1585 dL_law_1586 ?_
  refine law_rd (pc := 1587) X hX hbl hS hl 3 (by decide) (by decide) hi hL dL_law_1587 dL_law_1588 dL_law_1590 dL_law_1591 dL_law_1592 ?_
  refine law_wretU (pc := 1593) (sp := spW11) (As := [.ref x0, .int (xs (i + 1)), .int (xs (i + 2)), .int (xs (i + 3))]) (w := .long (wv (xs (i + 1)) (xs (i + 2)) (xs (i + 3)))) (fun _ _ _ _ h => ⟨h.1, h.2.2, fun _ _ => h.2.1⟩) (va_runV (As := [.int (xs (i + 1)), .int (xs (i + 2)), .int (xs (i + 3))]) (rest := []) ⟨X.1, X.2.1, X.2.2.1, X.2.2.2.1, X.2.2.2.2.1⟩ (GX11_ways l g x0 m0 (xs (i + 1)) (xs (i + 2)) (xs (i + 3)) Γ H.size hS.1.2.1) (k_cwV X vL_155 ⟨Nat.le_of_ble_eq_true rfl, Nat.le_of_ble_eq_true rfl⟩) ⟨GPRE.blind, f_recv X hS.1 (by rw [hS.2.1.1]; decide) ((congrArg TS0.1 hS.2.1.1).trans rfl) rfl, fun U hU hW => ⟨rfl, law_gpre X hS U hU hW⟩⟩ rfl rfl hl.1 rfl (lv_room (Nat.le_of_ble_eq_true rfl)) dL_law_1593 ⟨Nat.le_trans (show cells + 0 ≤ C by omega) hcC, Nat.le_trans (show slots + 0 ≤ S by omega) hSl⟩) hS (fun H locs hun hS9 => ?_)
  have hC := RC1.keep hC hS.1.1 hS.2.1.1 hun rfl
  have hM := RR1.keep hM hS.1.1 hS.2.1.2.1 hun rfl
  have hD := RCV.keep hD hq.2.1 hS.1.1 hS9.1.1 hS.2.1.1 hun rfl
  have hN := RRV.keep hN hS.1.1 hS.2.1.2.1 hun rfl rfl
  have hE := RCP.keep hE hq.2.2 hS.1.1 hS9.1.1 hS.2.1.1 hun rfl
  have hO := RRP.keep hO hS.1.1 hS.2.1.2.1 hun rfl rfl
  have hY := RMM.keep hY hS.2.1.2.1 hun rfl
  have hJ := RYK.keep hJ hS.1.1 hS.2.1.1 hun rfl
  have hS := hS9
  refine lv_pop2_2 (pc := 1596) hx hb dL_law_1596 rfl ?_
  refine lv_aload_n (pc := 1597) hx hb dL_law_1597 rfl (lv_at hl 2 rfl) ?_
  refine law_rd (pc := 1598) X hX hbl hS hl 1 (by decide) (by decide) hi hL dL_law_1598 dL_law_1599 dL_law_1601 dL_law_1602 dL_law_1603 ?_
  refine law_rd (pc := 1604) X hX hbl hS hl 2 (by decide) (by decide) hi hL dL_law_1604 dL_law_1605 dL_law_1607 dL_law_1608 dL_law_1609 ?_
  refine law_rd (pc := 1610) X hX hbl hS hl 3 (by decide) (by decide) hi hL dL_law_1610 dL_law_1611 dL_law_1613 dL_law_1614 dL_law_1615 ?_
  refine law_wretU (pc := 1616) (sp := spW12) (As := [.ref m0, .int (xs (i + 1)), .int (xs (i + 2)), .int (xs (i + 3))]) (w := .long (wv (xs (i + 1)) (xs (i + 2)) (xs (i + 3)))) (fun _ _ _ _ h => ⟨h.1, h.2, fun hun hLF => hLF.keep hun rfl⟩) (va_runV (As := [.int (xs (i + 1)), .int (xs (i + 2)), .int (xs (i + 3))]) (rest := []) ⟨X.1, X.2.1, X.2.2.1, X.2.2.2.1, X.2.2.2.2.1⟩ (SX12_waysW l g (xs (i + 1)) (xs (i + 2)) (xs (i + 3)) Γ m0 hS.1.2.1 hS.2.1.2.1) (k_cwV X vL_159 ⟨Nat.le_of_ble_eq_true rfl, Nat.le_of_ble_eq_true rfl⟩) ⟨SPRE.blind, f_recv X hS.1 (by rw [hS.2.1.2.1]; decide) ((congrArg TS0.1 hS.2.1.2.1).trans rfl) rfl, fun U hU hW => ⟨rfl, f_pre X hS.1 U hU hW rfl⟩⟩ rfl rfl hl.1 rfl (lv_room (Nat.le_of_ble_eq_true rfl)) dL_law_1616 ⟨Nat.le_trans (show cells + 0 ≤ C by omega) hcC, Nat.le_trans (show slots + 0 ≤ S by omega) hSl⟩) hS (fun H locs hun hS9 => ?_)
  have hC := RC1.keep hC hS.1.1 hS.2.1.1 hun rfl
  have hM := RR1.keep hM hS.1.1 hS.2.1.2.1 hun rfl
  have hD := RCV.keep hD hq.2.1 hS.1.1 hS9.1.1 hS.2.1.1 hun rfl
  have hN := RRV.keep hN hS.1.1 hS.2.1.2.1 hun rfl rfl
  have hE := RCP.keep hE hq.2.2 hS.1.1 hS9.1.1 hS.2.1.1 hun rfl
  have hO := RRP.keep hO hS.1.1 hS.2.1.2.1 hun rfl rfl
  have hY := RMM.keep hY hS.2.1.2.1 hun rfl
  have hJ := RYK.keep hJ hS.1.1 hS.2.1.1 hun rfl
  have hS := hS9
  refine lv_pop2_2 (pc := 1619) hx hb dL_law_1619 rfl ?_
  refine lv_goto (tgt := 1864) (pc := 1620) hx hb dL_law_1620 rfl ?_
  exact KK _ _ _ _ _ _ q _ _ (by omega) (by omega) hS hq hC hD hE hM hN hO hY hJ hZ (lv_sub hl [0, 1, 2, 3, 4] rfl)

set_option maxHeartbeats 4000000 in
set_option maxRecDepth 100000 in
theorem law_32 {p : Program} {e : Env} {s : State} {m : MethodId} {below : List Frame} {meth : Method} {c : Code} {l : Launch} {b L i C S x0 m0 o0 : Nat} {xs : Nat → Int32} {g : GG} {Γ : Nat → Nat} {H : Heap} {locs : List Loc} {q : RLT} {V : Nat → VV} {P : Nat → PP} {ls : Array Slot} {cells slots : Nat} (X : CTX p l m meth c cL_law 7 s #[Value.ref b] RL g (AL s)) (hr : meth.sig.returnType = ret) (hX : va_X b L xs s s.heap) (hbl : b < s.heap.size) (hL : L ≤ 3072) (hi : i + 6 ≤ L) (hS : LWS g x0 m0 o0 s Γ H locs) (hl : lv_has ls 7 (LO b x0 m0 o0 i)) (hc : cells + 13 ≤ C) (hs : slots + 380 ≤ S) (hcC : C ≤ 601024) (hSl : S ≤ 7293034) (hq : RLW q) (hC : R1c g x0 q H) (hD : RCV g x0 q.2.2.1 V H) (hM : R1m g m0 q H) (hN : RRV g m0 q.2.2.1 V H) (hE : RCP g x0 q.2.2.2 P H) (hO : RRP g m0 q.2.2.2 P H) (hY : RMM g m0 H) (hJ : RYK g x0 H) (hZ : PLX q.2.2.1 V q.2.2.2 P) (KK : LGP p l e s m b below meth c g x0 m0 o0 i C S) : W p l e room_1 s m #[Value.ref b] below meth c H locs cells slots (lw_Z below #[Value.ref b] s) (F0 m 1623 ls []) := by
  have hx := X.1
  have hb := X.2.1
  refine lv_aload_n (pc := 1623) hx hb dL_law_1623 rfl (lv_at hl 1 rfl) ?_
  refine law_rd (pc := 1624) X hX hbl hS hl 1 (by decide) (by decide) hi hL dL_law_1624 dL_law_1625 dL_law_1627 dL_law_1628 dL_law_1629 ?_
  refine law_rd (pc := 1630) X hX hbl hS hl 2 (by decide) (by decide) hi hL dL_law_1630 dL_law_1631 dL_law_1633 dL_law_1634 dL_law_1635 ?_
  refine law_rd (pc := 1636) X hX hbl hS hl 3 (by decide) (by decide) hi hL dL_law_1636 dL_law_1637 dL_law_1639 dL_law_1640 dL_law_1641 ?_
  refine lv_i2l (pc := 1642) hx hb dL_law_1642 rfl ?_
  refine lv_bipush (v := 32) (pc := 1643) hx hb dL_law_1643 (by decide) ?_
  refine lv_lshl (v := _) (pc := 1645) hx hb dL_law_1645 rfl ?_
  refine lv_topl (fun v1 ev1 => ?_)
  obtain rfl : v1 = (xs (i + 3)).toInt64 <<< ((32 : Int32).toInt64 &&& 63) := ev1.trans (rfl)
  refine law_rd (pc := 1646) X hX hbl hS hl 4 (by decide) (by decide) hi hL dL_law_1646 dL_law_1647 dL_law_1649 dL_law_1650 dL_law_1651 ?_
  refine lv_i2l (pc := 1652) hx hb dL_law_1652 rfl ?_
  refine lv_ldc2 (pc := 1653) hx hb X.2.2.2.1 (X.2.2.2.2.1 _ m_1806) dL_law_1653 ?_
  refine lv_land (pc := 1656) hx hb dL_law_1656 ?_
  refine lv_lor (pc := 1657) hx hb dL_law_1657 ?_
  refine law_callU (pc := 1658) (ci := 11) (As := [.int (xs (i + 1)), .int (xs (i + 2)), .long (((xs (i + 3)).toInt64 <<< ((32 : Int32).toInt64 &&& 63)) ||| (((xs (i + 4)).toInt64) &&& 4294967295))]) (rs := []) X hS (SX11_drawn_0 l g) vL_162 rfl hS.2.1.1 (by decide) rfl ⟨av_ref hS.2.1.1 (by decide), avi_top _, avi_top _, ⟨rfl, fun h => absurd h (by decide)⟩, trivial⟩ rfl rfl hl.1 rfl (Nat.le_of_ble_eq_true rfl) ⟨Nat.le_of_ble_eq_true rfl, Nat.le_of_ble_eq_true rfl⟩ ⟨by omega, by omega⟩ dL_law_1658 rfl rfl (fun x9 H locs hun hS9 => ?_)
  have hC := RC1.keep hC hS.1.1 hS.2.1.1 hun rfl
  have hM := RR1.keep hM hS.1.1 hS.2.1.2.1 hun rfl
  have hD := RCV.keep hD hq.2.1 hS.1.1 hS9.1.1 hS.2.1.1 hun rfl
  have hN := RRV.keep hN hS.1.1 hS.2.1.2.1 hun rfl rfl
  have hE := RCP.keep hE hq.2.2 hS.1.1 hS9.1.1 hS.2.1.1 hun rfl
  have hO := RRP.keep hO hS.1.1 hS.2.1.2.1 hun rfl rfl
  have hY := RMM.keep hY hS.2.1.2.1 hun rfl
  have hJ := RYK.keep hJ hS.1.1 hS.2.1.1 hun rfl
  have hS := hS9
  refine lv_pop (pc := 1661) hx hb dL_law_1661 rfl ?_
  refine lv_aload_n (pc := 1662) hx hb dL_law_1662 rfl (lv_at hl 2 rfl) ?_
  refine law_rd (pc := 1663) X hX hbl hS hl 1 (by decide) (by decide) hi hL dL_law_1663 dL_law_1664 dL_law_1666 dL_law_1667 dL_law_1668 ?_
  refine law_rd (pc := 1669) X hX hbl hS hl 2 (by decide) (by decide) hi hL dL_law_1669 dL_law_1670 dL_law_1672 dL_law_1673 dL_law_1674 ?_
  refine law_rd (pc := 1675) X hX hbl hS hl 3 (by decide) (by decide) hi hL dL_law_1675 dL_law_1676 dL_law_1678 dL_law_1679 dL_law_1680 ?_
  refine lv_i2l (pc := 1681) hx hb dL_law_1681 rfl ?_
  refine lv_bipush (v := 32) (pc := 1682) hx hb dL_law_1682 (by decide) ?_
  refine lv_lshl (v := _) (pc := 1684) hx hb dL_law_1684 rfl ?_
  refine lv_topl (fun v2 ev2 => ?_)
  obtain rfl : v2 = (xs (i + 3)).toInt64 <<< ((32 : Int32).toInt64 &&& 63) := ev2.trans (rfl)
  refine law_rd (pc := 1685) X hX hbl hS hl 4 (by decide) (by decide) hi hL dL_law_1685 dL_law_1686 dL_law_1688 dL_law_1689 dL_law_1690 ?_
  refine lv_i2l (pc := 1691) hx hb dL_law_1691 rfl ?_
  refine lv_ldc2 (pc := 1692) hx hb X.2.2.2.1 (X.2.2.2.2.1 _ m_1806) dL_law_1692 ?_
  refine lv_land (pc := 1695) hx hb dL_law_1695 ?_
  refine lv_lor (pc := 1696) hx hb dL_law_1696 ?_
  refine law_callU (pc := 1697) (ci := 12) (As := [.int (xs (i + 1)), .int (xs (i + 2)), .long (((xs (i + 3)).toInt64 <<< ((32 : Int32).toInt64 &&& 63)) ||| (((xs (i + 4)).toInt64) &&& 4294967295))]) (rs := []) X hS (SX12_drawn_0 l g) vL_166 rfl hS.2.1.2.1 (by decide) rfl ⟨av_ref hS.2.1.2.1 (by decide), avi_top _, avi_top _, ⟨rfl, fun h => absurd h (by decide)⟩, trivial⟩ rfl rfl hl.1 rfl (Nat.le_of_ble_eq_true rfl) ⟨Nat.le_of_ble_eq_true rfl, Nat.le_of_ble_eq_true rfl⟩ ⟨by omega, by omega⟩ dL_law_1697 rfl rfl (fun x9 H locs hun hS9 => ?_)
  have hC := RC1.keep hC hS.1.1 hS.2.1.1 hun rfl
  have hM := RR1.keep hM hS.1.1 hS.2.1.2.1 hun rfl
  have hD := RCV.keep hD hq.2.1 hS.1.1 hS9.1.1 hS.2.1.1 hun rfl
  have hN := RRV.keep hN hS.1.1 hS.2.1.2.1 hun rfl rfl
  have hE := RCP.keep hE hq.2.2 hS.1.1 hS9.1.1 hS.2.1.1 hun rfl
  have hO := RRP.keep hO hS.1.1 hS.2.1.2.1 hun rfl rfl
  have hY := RMM.keep hY hS.2.1.2.1 hun rfl
  have hJ := RYK.keep hJ hS.1.1 hS.2.1.1 hun rfl
  have hS := hS9
  refine lv_pop (pc := 1700) hx hb dL_law_1700 rfl ?_
  refine lv_goto (tgt := 1864) (pc := 1701) hx hb dL_law_1701 rfl ?_
  exact KK _ _ _ _ _ _ q _ _ (by omega) (by omega) hS hq hC hD hE hM hN hO hY hJ hZ (lv_sub hl [0, 1, 2, 3, 4] rfl)

set_option maxHeartbeats 4000000 in
set_option maxRecDepth 100000 in
theorem law_33 {p : Program} {e : Env} {s : State} {m : MethodId} {below : List Frame} {meth : Method} {c : Code} {l : Launch} {b L i C S x0 m0 o0 : Nat} {xs : Nat → Int32} {g : GG} {Γ : Nat → Nat} {H : Heap} {locs : List Loc} {q : RLT} {V : Nat → VV} {P : Nat → PP} {ls : Array Slot} {cells slots : Nat} (X : CTX p l m meth c cL_law 7 s #[Value.ref b] RL g (AL s)) (hr : meth.sig.returnType = ret) (hX : va_X b L xs s s.heap) (hbl : b < s.heap.size) (hL : L ≤ 3072) (hi : i + 6 ≤ L) (hS : LWS g x0 m0 o0 s Γ H locs) (hl : lv_has ls 7 (LO b x0 m0 o0 i)) (hc : cells + 13 ≤ C) (hs : slots + 380 ≤ S) (hcC : C ≤ 601024) (hSl : S ≤ 7293034) (hq : RLW q) (hC : R1c g x0 q H) (hD : RCV g x0 q.2.2.1 V H) (hM : R1m g m0 q H) (hN : RRV g m0 q.2.2.1 V H) (hE : RCP g x0 q.2.2.2 P H) (hO : RRP g m0 q.2.2.2 P H) (hY : RMM g m0 H) (hJ : RYK g x0 H) (hZ : PLX q.2.2.1 V q.2.2.2 P) (KK : LGP p l e s m b below meth c g x0 m0 o0 i C S) : W p l e room_1 s m #[Value.ref b] below meth c H locs cells slots (lw_Z below #[Value.ref b] s) (F0 m 1704 ls []) := by
  have hx := X.1
  have hb := X.2.1
  refine lv_aload_n (pc := 1704) hx hb dL_law_1704 rfl (lv_at hl 1 rfl) ?_
  refine law_rd (pc := 1705) X hX hbl hS hl 1 (by decide) (by decide) hi hL dL_law_1705 dL_law_1706 dL_law_1708 dL_law_1709 dL_law_1710 ?_
  refine law_rd (pc := 1711) X hX hbl hS hl 2 (by decide) (by decide) hi hL dL_law_1711 dL_law_1712 dL_law_1714 dL_law_1715 dL_law_1716 ?_
  refine law_rd (pc := 1717) X hX hbl hS hl 3 (by decide) (by decide) hi hL dL_law_1717 dL_law_1718 dL_law_1720 dL_law_1721 dL_law_1722 ?_
  refine law_rd (pc := 1723) X hX hbl hS hl 4 (by decide) (by decide) hi hL dL_law_1723 dL_law_1724 dL_law_1726 dL_law_1727 dL_law_1728 ?_
  refine law_callE (pc := 1729) (ci := 11) (As := [.int (xs (i + 1)), .int (xs (i + 2)), .int (xs (i + 3)), .int (xs (i + 4))]) (rs := []) X hS (E11_taleV hS.1.2.1 hq.2.1 hS.2.1.1 (xs (i + 1)) (xs (i + 2)) (xs (i + 3)) (xs (i + 4))) vL_167 rfl hS.2.1.1 (by decide) rfl ⟨hC, hD⟩ rfl hl.1 rfl (Nat.le_of_ble_eq_true rfl) ⟨Nat.le_of_ble_eq_true rfl, Nat.le_of_ble_eq_true rfl⟩ ⟨by omega, by omega⟩ dL_law_1729 rfl rfl (fun x9 H locs hp hun hS9 => ?_)
  obtain ⟨hx9, hN9⟩ := hp
  obtain rfl := Value.int.inj hx9
  have hC := RC1.keep hC hS.1.1 hS.2.1.1 hun rfl
  have hM := RR1.keep hM hS.1.1 hS.2.1.2.1 hun rfl
  have hN := RRV.keep hN hS.1.1 hS.2.1.2.1 hun rfl rfl
  have hE := RCP.keep hE hq.2.2 hS.1.1 hS9.1.1 hS.2.1.1 hun rfl
  have hO := RRP.keep hO hS.1.1 hS.2.1.2.1 hun rfl rfl
  have hY := RMM.keep hY hS.2.1.2.1 hun rfl
  have hJ := RYK.keep hJ hS.1.1 hS.2.1.1 hun rfl
  have hD := hN9
  have hS := hS9
  refine lv_pop (pc := 1732) hx hb dL_law_1732 rfl ?_
  refine lv_aload_n (pc := 1733) hx hb dL_law_1733 rfl (lv_at hl 2 rfl) ?_
  refine law_rd (pc := 1734) X hX hbl hS hl 1 (by decide) (by decide) hi hL dL_law_1734 dL_law_1735 dL_law_1737 dL_law_1738 dL_law_1739 ?_
  refine law_rd (pc := 1740) X hX hbl hS hl 2 (by decide) (by decide) hi hL dL_law_1740 dL_law_1741 dL_law_1743 dL_law_1744 dL_law_1745 ?_
  refine law_rd (pc := 1746) X hX hbl hS hl 3 (by decide) (by decide) hi hL dL_law_1746 dL_law_1747 dL_law_1749 dL_law_1750 dL_law_1751 ?_
  refine law_rd (pc := 1752) X hX hbl hS hl 4 (by decide) (by decide) hi hL dL_law_1752 dL_law_1753 dL_law_1755 dL_law_1756 dL_law_1757 ?_
  refine law_callE (pc := 1758) (ci := 12) (As := [.int (xs (i + 1)), .int (xs (i + 2)), .int (xs (i + 3)), .int (xs (i + 4))]) (rs := []) X hS (E12_taleV hS.1.2.1 hq.2.1 hS.2.1.2.1 (xs (i + 1)) (xs (i + 2)) (xs (i + 3)) (xs (i + 4))) vL_171 rfl hS.2.1.2.1 (by decide) rfl ⟨hM, hN⟩ rfl hl.1 rfl (Nat.le_of_ble_eq_true rfl) ⟨Nat.le_of_ble_eq_true rfl, Nat.le_of_ble_eq_true rfl⟩ ⟨by omega, by omega⟩ dL_law_1758 rfl rfl (fun x9 H locs hp hun hS9 => ?_)
  obtain ⟨hx9, hN9⟩ := hp
  obtain rfl := Value.int.inj hx9
  have hC := RC1.keep hC hS.1.1 hS.2.1.1 hun rfl
  have hM := RR1.keep hM hS.1.1 hS.2.1.2.1 hun rfl
  have hD := RCV.keep hD hq.2.1 hS.1.1 hS9.1.1 hS.2.1.1 hun rfl
  have hE := RCP.keep hE hq.2.2 hS.1.1 hS9.1.1 hS.2.1.1 hun rfl
  have hO := RRP.keep hO hS.1.1 hS.2.1.2.1 hun rfl rfl
  have hY := RMM.keep hY hS.2.1.2.1 hun rfl
  have hJ := RYK.keep hJ hS.1.1 hS.2.1.1 hun rfl
  have hN := hN9
  have hS := hS9
  refine lv_pop (pc := 1761) hx hb dL_law_1761 rfl ?_
  refine lv_goto (tgt := 1864) (pc := 1762) hx hb dL_law_1762 rfl ?_
  exact KK _ _ _ _ _ _ q _ _ (by omega) (by omega) hS hq hC hD hE hM hN hO hY hJ (plx_vnew hZ (fun _ => rfl) (fun _ h => h)) (lv_sub hl [0, 1, 2, 3, 4] rfl)

set_option maxHeartbeats 4000000 in
set_option maxRecDepth 100000 in
theorem law_34 {p : Program} {e : Env} {s : State} {m : MethodId} {below : List Frame} {meth : Method} {c : Code} {l : Launch} {b L i C S x0 m0 o0 : Nat} {xs : Nat → Int32} {g : GG} {Γ : Nat → Nat} {H : Heap} {locs : List Loc} {q : RLT} {V : Nat → VV} {P : Nat → PP} {ls : Array Slot} {cells slots : Nat} (X : CTX p l m meth c cL_law 7 s #[Value.ref b] RL g (AL s)) (hr : meth.sig.returnType = ret) (hX : va_X b L xs s s.heap) (hbl : b < s.heap.size) (hL : L ≤ 3072) (hi : i + 6 ≤ L) (hS : LWS g x0 m0 o0 s Γ H locs) (hl : lv_has ls 7 (LO b x0 m0 o0 i)) (hc : cells + 13 ≤ C) (hs : slots + 380 ≤ S) (hcC : C ≤ 601024) (hSl : S ≤ 7293034) (hq : RLW q) (hC : R1c g x0 q H) (hD : RCV g x0 q.2.2.1 V H) (hM : R1m g m0 q H) (hN : RRV g m0 q.2.2.1 V H) (hE : RCP g x0 q.2.2.2 P H) (hO : RRP g m0 q.2.2.2 P H) (hY : RMM g m0 H) (hJ : RYK g x0 H) (hZ : PLX q.2.2.1 V q.2.2.2 P) (KK : LGP p l e s m b below meth c g x0 m0 o0 i C S) : W p l e room_1 s m #[Value.ref b] below meth c H locs cells slots (lw_Z below #[Value.ref b] s) (F0 m 1765 ls []) := by
  have hx := X.1
  have hb := X.2.1
  refine lv_aload_n (pc := 1765) hx hb dL_law_1765 rfl (lv_at hl 1 rfl) ?_
  refine law_rd (pc := 1766) X hX hbl hS hl 1 (by decide) (by decide) hi hL dL_law_1766 dL_law_1767 dL_law_1769 dL_law_1770 dL_law_1771 ?_
  refine law_rd (pc := 1772) X hX hbl hS hl 2 (by decide) (by decide) hi hL dL_law_1772 dL_law_1773 dL_law_1775 dL_law_1776 dL_law_1777 ?_
  refine law_callU (pc := 1778) (ci := 11) (As := [.int (xs (i + 1)), .int (xs (i + 2))]) (rs := []) X hS (SX11_who_0 l g) vL_172 rfl hS.2.1.1 (by decide) rfl ⟨av_ref hS.2.1.1 (by decide), avi_top _, avi_top _, trivial⟩ rfl rfl hl.1 rfl (Nat.le_of_ble_eq_true rfl) ⟨Nat.le_of_ble_eq_true rfl, Nat.le_of_ble_eq_true rfl⟩ ⟨by omega, by omega⟩ dL_law_1778 rfl rfl (fun x9 H locs hun hS9 => ?_)
  have hC := RC1.keep hC hS.1.1 hS.2.1.1 hun rfl
  have hM := RR1.keep hM hS.1.1 hS.2.1.2.1 hun rfl
  have hD := RCV.keep hD hq.2.1 hS.1.1 hS9.1.1 hS.2.1.1 hun rfl
  have hN := RRV.keep hN hS.1.1 hS.2.1.2.1 hun rfl rfl
  have hE := RCP.keep hE hq.2.2 hS.1.1 hS9.1.1 hS.2.1.1 hun rfl
  have hO := RRP.keep hO hS.1.1 hS.2.1.2.1 hun rfl rfl
  have hY := RMM.keep hY hS.2.1.2.1 hun rfl
  have hJ := RYK.keep hJ hS.1.1 hS.2.1.1 hun rfl
  have hS := hS9
  refine lv_pop (pc := 1781) hx hb dL_law_1781 rfl ?_
  refine lv_aload_n (pc := 1782) hx hb dL_law_1782 rfl (lv_at hl 2 rfl) ?_
  refine law_rd (pc := 1783) X hX hbl hS hl 1 (by decide) (by decide) hi hL dL_law_1783 dL_law_1784 dL_law_1786 dL_law_1787 dL_law_1788 ?_
  refine law_rd (pc := 1789) X hX hbl hS hl 2 (by decide) (by decide) hi hL dL_law_1789 dL_law_1790 dL_law_1792 dL_law_1793 dL_law_1794 ?_
  refine law_callU (pc := 1795) (ci := 12) (As := [.int (xs (i + 1)), .int (xs (i + 2))]) (rs := []) X hS (SX12_who_0 l g) vL_175 rfl hS.2.1.2.1 (by decide) rfl ⟨av_ref hS.2.1.2.1 (by decide), avi_top _, avi_top _, trivial⟩ rfl rfl hl.1 rfl (Nat.le_of_ble_eq_true rfl) ⟨Nat.le_of_ble_eq_true rfl, Nat.le_of_ble_eq_true rfl⟩ ⟨by omega, by omega⟩ dL_law_1795 rfl rfl (fun x9 H locs hun hS9 => ?_)
  have hC := RC1.keep hC hS.1.1 hS.2.1.1 hun rfl
  have hM := RR1.keep hM hS.1.1 hS.2.1.2.1 hun rfl
  have hD := RCV.keep hD hq.2.1 hS.1.1 hS9.1.1 hS.2.1.1 hun rfl
  have hN := RRV.keep hN hS.1.1 hS.2.1.2.1 hun rfl rfl
  have hE := RCP.keep hE hq.2.2 hS.1.1 hS9.1.1 hS.2.1.1 hun rfl
  have hO := RRP.keep hO hS.1.1 hS.2.1.2.1 hun rfl rfl
  have hY := RMM.keep hY hS.2.1.2.1 hun rfl
  have hJ := RYK.keep hJ hS.1.1 hS.2.1.1 hun rfl
  have hS := hS9
  refine lv_pop (pc := 1798) hx hb dL_law_1798 rfl ?_
  refine lv_goto (tgt := 1864) (pc := 1799) hx hb dL_law_1799 rfl ?_
  exact KK _ _ _ _ _ _ q _ _ (by omega) (by omega) hS hq hC hD hE hM hN hO hY hJ hZ (lv_sub hl [0, 1, 2, 3, 4] rfl)

set_option maxHeartbeats 4000000 in
set_option maxRecDepth 100000 in
theorem law_35 {p : Program} {e : Env} {s : State} {m : MethodId} {below : List Frame} {meth : Method} {c : Code} {l : Launch} {b L i C S x0 m0 o0 : Nat} {xs : Nat → Int32} {g : GG} {Γ : Nat → Nat} {H : Heap} {locs : List Loc} {q : RLT} {V : Nat → VV} {P : Nat → PP} {ls : Array Slot} {cells slots : Nat} (X : CTX p l m meth c cL_law 7 s #[Value.ref b] RL g (AL s)) (hr : meth.sig.returnType = ret) (hX : va_X b L xs s s.heap) (hbl : b < s.heap.size) (hL : L ≤ 3072) (hi : i + 6 ≤ L) (hS : LWS g x0 m0 o0 s Γ H locs) (hl : lv_has ls 7 (LO b x0 m0 o0 i)) (hc : cells + 13 ≤ C) (hs : slots + 380 ≤ S) (hcC : C ≤ 601024) (hSl : S ≤ 7293034) (hq : RLW q) (hC : R1c g x0 q H) (hD : RCV g x0 q.2.2.1 V H) (hM : R1m g m0 q H) (hN : RRV g m0 q.2.2.1 V H) (hE : RCP g x0 q.2.2.2 P H) (hO : RRP g m0 q.2.2.2 P H) (hY : RMM g m0 H) (hJ : RYK g x0 H) (hZ : PLX q.2.2.1 V q.2.2.2 P) (KK : LGP p l e s m b below meth c g x0 m0 o0 i C S) : W p l e room_1 s m #[Value.ref b] below meth c H locs cells slots (lw_Z below #[Value.ref b] s) (F0 m 1802 ls []) := by
  have hx := X.1
  have hb := X.2.1
  refine lv_aload_n (pc := 1802) hx hb dL_law_1802 rfl (lv_at hl 1 rfl) ?_
  refine law_rd (pc := 1803) X hX hbl hS hl 1 (by decide) (by decide) hi hL dL_law_1803 dL_law_1804 dL_law_1806 dL_law_1807 dL_law_1808 ?_
  refine law_rd (pc := 1809) X hX hbl hS hl 2 (by decide) (by decide) hi hL dL_law_1809 dL_law_1810 dL_law_1812 dL_law_1813 dL_law_1814 ?_
  refine law_callU (pc := 1815) (ci := 11) (As := [.int (xs (i + 1)), .int (xs (i + 2))]) (rs := []) X hS (SX11_fits_0 l g) vL_176 rfl hS.2.1.1 (by decide) rfl ⟨av_ref hS.2.1.1 (by decide), avi_top _, avi_top _, trivial⟩ rfl rfl hl.1 rfl (Nat.le_of_ble_eq_true rfl) ⟨Nat.le_of_ble_eq_true rfl, Nat.le_of_ble_eq_true rfl⟩ ⟨by omega, by omega⟩ dL_law_1815 rfl rfl (fun x9 H locs hun hS9 => ?_)
  have hC := RC1.keep hC hS.1.1 hS.2.1.1 hun rfl
  have hM := RR1.keep hM hS.1.1 hS.2.1.2.1 hun rfl
  have hD := RCV.keep hD hq.2.1 hS.1.1 hS9.1.1 hS.2.1.1 hun rfl
  have hN := RRV.keep hN hS.1.1 hS.2.1.2.1 hun rfl rfl
  have hE := RCP.keep hE hq.2.2 hS.1.1 hS9.1.1 hS.2.1.1 hun rfl
  have hO := RRP.keep hO hS.1.1 hS.2.1.2.1 hun rfl rfl
  have hY := RMM.keep hY hS.2.1.2.1 hun rfl
  have hJ := RYK.keep hJ hS.1.1 hS.2.1.1 hun rfl
  have hS := hS9
  refine lv_pop (pc := 1818) hx hb dL_law_1818 rfl ?_
  refine lv_aload_n (pc := 1819) hx hb dL_law_1819 rfl (lv_at hl 2 rfl) ?_
  refine law_rd (pc := 1820) X hX hbl hS hl 1 (by decide) (by decide) hi hL dL_law_1820 dL_law_1821 dL_law_1823 dL_law_1824 dL_law_1825 ?_
  refine law_rd (pc := 1826) X hX hbl hS hl 2 (by decide) (by decide) hi hL dL_law_1826 dL_law_1827 dL_law_1829 dL_law_1830 dL_law_1831 ?_
  refine law_callU (pc := 1832) (ci := 12) (As := [.int (xs (i + 1)), .int (xs (i + 2))]) (rs := []) X hS (SX12_fits_0 l g) vL_179 rfl hS.2.1.2.1 (by decide) rfl ⟨av_ref hS.2.1.2.1 (by decide), avi_top _, avi_top _, trivial⟩ rfl rfl hl.1 rfl (Nat.le_of_ble_eq_true rfl) ⟨Nat.le_of_ble_eq_true rfl, Nat.le_of_ble_eq_true rfl⟩ ⟨by omega, by omega⟩ dL_law_1832 rfl rfl (fun x9 H locs hun hS9 => ?_)
  have hC := RC1.keep hC hS.1.1 hS.2.1.1 hun rfl
  have hM := RR1.keep hM hS.1.1 hS.2.1.2.1 hun rfl
  have hD := RCV.keep hD hq.2.1 hS.1.1 hS9.1.1 hS.2.1.1 hun rfl
  have hN := RRV.keep hN hS.1.1 hS.2.1.2.1 hun rfl rfl
  have hE := RCP.keep hE hq.2.2 hS.1.1 hS9.1.1 hS.2.1.1 hun rfl
  have hO := RRP.keep hO hS.1.1 hS.2.1.2.1 hun rfl rfl
  have hY := RMM.keep hY hS.2.1.2.1 hun rfl
  have hJ := RYK.keep hJ hS.1.1 hS.2.1.1 hun rfl
  have hS := hS9
  refine lv_pop (pc := 1835) hx hb dL_law_1835 rfl ?_
  refine lv_goto (tgt := 1864) (pc := 1836) hx hb dL_law_1836 rfl ?_
  exact KK _ _ _ _ _ _ q _ _ (by omega) (by omega) hS hq hC hD hE hM hN hO hY hJ hZ (lv_sub hl [0, 1, 2, 3, 4] rfl)

set_option maxHeartbeats 4000000 in
set_option maxRecDepth 100000 in
theorem law_36 {p : Program} {e : Env} {s : State} {m : MethodId} {below : List Frame} {meth : Method} {c : Code} {l : Launch} {b L i C S x0 m0 o0 : Nat} {xs : Nat → Int32} {g : GG} {Γ : Nat → Nat} {H : Heap} {locs : List Loc} {q : RLT} {V : Nat → VV} {P : Nat → PP} {ls : Array Slot} {cells slots : Nat} (X : CTX p l m meth c cL_law 7 s #[Value.ref b] RL g (AL s)) (hr : meth.sig.returnType = ret) (hX : va_X b L xs s s.heap) (hbl : b < s.heap.size) (hL : L ≤ 3072) (hi : i + 6 ≤ L) (hS : LWS g x0 m0 o0 s Γ H locs) (hl : lv_has ls 7 (LO b x0 m0 o0 i)) (hc : cells + 13 ≤ C) (hs : slots + 380 ≤ S) (hcC : C ≤ 601024) (hSl : S ≤ 7293034) (hq : RLW q) (hC : R1c g x0 q H) (hD : RCV g x0 q.2.2.1 V H) (hM : R1m g m0 q H) (hN : RRV g m0 q.2.2.1 V H) (hE : RCP g x0 q.2.2.2 P H) (hO : RRP g m0 q.2.2.2 P H) (hY : RMM g m0 H) (hJ : RYK g x0 H) (hZ : PLX q.2.2.1 V q.2.2.2 P) (KK : LGP p l e s m b below meth c g x0 m0 o0 i C S) : W p l e room_1 s m #[Value.ref b] below meth c H locs cells slots (lw_Z below #[Value.ref b] s) (F0 m 1839 ls []) := by
  have hx := X.1
  have hb := X.2.1
  refine lv_aload_n (pc := 1839) hx hb dL_law_1839 rfl (lv_at hl 1 rfl) ?_
  refine law_rd (pc := 1840) X hX hbl hS hl 1 (by decide) (by decide) hi hL dL_law_1840 dL_law_1841 dL_law_1843 dL_law_1844 dL_law_1845 ?_
  refine law_callU (pc := 1846) (ci := 11) (As := [.int (xs (i + 1))]) (rs := []) X hS (SX11_count_0 l g) vL_180 rfl hS.2.1.1 (by decide) rfl ⟨av_ref hS.2.1.1 (by decide), avi_top _, trivial⟩ rfl rfl hl.1 rfl (Nat.le_of_ble_eq_true rfl) ⟨Nat.le_of_ble_eq_true rfl, Nat.le_of_ble_eq_true rfl⟩ ⟨by omega, by omega⟩ dL_law_1846 rfl rfl (fun x9 H locs hun hS9 => ?_)
  have hC := RC1.keep hC hS.1.1 hS.2.1.1 hun rfl
  have hM := RR1.keep hM hS.1.1 hS.2.1.2.1 hun rfl
  have hD := RCV.keep hD hq.2.1 hS.1.1 hS9.1.1 hS.2.1.1 hun rfl
  have hN := RRV.keep hN hS.1.1 hS.2.1.2.1 hun rfl rfl
  have hE := RCP.keep hE hq.2.2 hS.1.1 hS9.1.1 hS.2.1.1 hun rfl
  have hO := RRP.keep hO hS.1.1 hS.2.1.2.1 hun rfl rfl
  have hY := RMM.keep hY hS.2.1.2.1 hun rfl
  have hJ := RYK.keep hJ hS.1.1 hS.2.1.1 hun rfl
  have hS := hS9
  refine lv_pop (pc := 1849) hx hb dL_law_1849 rfl ?_
  refine lv_aload_n (pc := 1850) hx hb dL_law_1850 rfl (lv_at hl 2 rfl) ?_
  refine law_rd (pc := 1851) X hX hbl hS hl 1 (by decide) (by decide) hi hL dL_law_1851 dL_law_1852 dL_law_1854 dL_law_1855 dL_law_1856 ?_
  refine law_callU (pc := 1857) (ci := 12) (As := [.int (xs (i + 1))]) (rs := []) X hS (SX12_count_0 l g) vL_183 rfl hS.2.1.2.1 (by decide) rfl ⟨av_ref hS.2.1.2.1 (by decide), avi_top _, trivial⟩ rfl rfl hl.1 rfl (Nat.le_of_ble_eq_true rfl) ⟨Nat.le_of_ble_eq_true rfl, Nat.le_of_ble_eq_true rfl⟩ ⟨by omega, by omega⟩ dL_law_1857 rfl rfl (fun x9 H locs hun hS9 => ?_)
  have hC := RC1.keep hC hS.1.1 hS.2.1.1 hun rfl
  have hM := RR1.keep hM hS.1.1 hS.2.1.2.1 hun rfl
  have hD := RCV.keep hD hq.2.1 hS.1.1 hS9.1.1 hS.2.1.1 hun rfl
  have hN := RRV.keep hN hS.1.1 hS.2.1.2.1 hun rfl rfl
  have hE := RCP.keep hE hq.2.2 hS.1.1 hS9.1.1 hS.2.1.1 hun rfl
  have hO := RRP.keep hO hS.1.1 hS.2.1.2.1 hun rfl rfl
  have hY := RMM.keep hY hS.2.1.2.1 hun rfl
  have hJ := RYK.keep hJ hS.1.1 hS.2.1.1 hun rfl
  have hS := hS9
  refine lv_pop (pc := 1860) hx hb dL_law_1860 rfl ?_
  refine lv_goto (tgt := 1864) (pc := 1861) hx hb dL_law_1861 rfl ?_
  exact KK _ _ _ _ _ _ q _ _ (by omega) (by omega) hS hq hC hD hE hM hN hO hY hJ hZ (lv_sub hl [0, 1, 2, 3, 4] rfl)

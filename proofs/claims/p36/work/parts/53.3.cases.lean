theorem m_396 : (Cond.methodLink "NoonValleyLaw" 19 yX11_feed) ∈ BW := bw (tb2 156 rfl) (by decide +kernel)
theorem m_397 : (Cond.instanceMethod yX11_feed) ∈ BW := bw (tb2 157 rfl) (by decide +kernel)
theorem m_398 : (Cond.selects "NoonValley" yX11_feed yX11_feed) ∈ BW := bw (tb2 158 rfl) (by decide +kernel)
theorem vL_19 : LV RL 19 RX11 yX11_feed cX11_feed 6 (some .int) 5 := ⟨m_396, m_397, m_398, m_1, m_399, rfl, by decide, by decide, by decide +kernel⟩
theorem m_1421 : (Cond.methodLink "NoonValleyLaw" 23 yX12_feed) ∈ BW := bw (tb6 221 rfl) (by decide +kernel)
theorem m_1422 : (Cond.instanceMethod yX12_feed) ∈ BW := bw (tb6 222 rfl) (by decide +kernel)
theorem m_1423 : (Cond.selects "NoonValleyModel" yX12_feed yX12_feed) ∈ BW := bw (tb6 223 rfl) (by decide +kernel)
theorem vL_23 : LV RL 23 RX12 yX12_feed cX12_feed 6 (some .int) 5 := ⟨m_1421, m_1422, m_1423, m_12, m_1424, rfl, by decide, by decide, by decide +kernel⟩
theorem m_411 : (Cond.methodLink "NoonValleyLaw" 24 yX11_end) ∈ BW := bw (tb2 171 rfl) (by decide +kernel)
theorem m_412 : (Cond.instanceMethod yX11_end) ∈ BW := bw (tb2 172 rfl) (by decide +kernel)
theorem m_413 : (Cond.selects "NoonValley" yX11_end yX11_end) ∈ BW := bw (tb2 173 rfl) (by decide +kernel)
theorem vL_24 : LV RL 24 RX11 yX11_end cX11_end 2 (some .boolean) 1 := ⟨m_411, m_412, m_413, m_1, m_414, rfl, by decide, by decide, by decide +kernel⟩
theorem m_1432 : (Cond.methodLink "NoonValleyLaw" 28 yX12_end) ∈ BW := bw (tb6 232 rfl) (by decide +kernel)
theorem m_1433 : (Cond.instanceMethod yX12_end) ∈ BW := bw (tb6 233 rfl) (by decide +kernel)
theorem m_1434 : (Cond.selects "NoonValleyModel" yX12_end yX12_end) ∈ BW := bw (tb6 234 rfl) (by decide +kernel)
theorem vL_28 : LV RL 28 RX12 yX12_end cX12_end 2 (some .boolean) 1 := ⟨m_1432, m_1433, m_1434, m_12, m_1435, rfl, by decide, by decide, by decide +kernel⟩
theorem m_419 : (Cond.methodLink "NoonValleyLaw" 29 yX11_fault) ∈ BW := bw (tb2 179 rfl) (by decide +kernel)
theorem m_420 : (Cond.instanceMethod yX11_fault) ∈ BW := bw (tb2 180 rfl) (by decide +kernel)
theorem m_421 : (Cond.selects "NoonValley" yX11_fault yX11_fault) ∈ BW := bw (tb2 181 rfl) (by decide +kernel)
theorem vL_29 : LV RL 29 RX11 yX11_fault cX11_fault 1 (some .int) 0 := ⟨m_419, m_420, m_421, m_1, m_422, rfl, by decide, by decide, by decide +kernel⟩
theorem m_1436 : (Cond.methodLink "NoonValleyLaw" 33 yX12_fault) ∈ BW := bw (tb6 236 rfl) (by decide +kernel)
theorem m_1437 : (Cond.instanceMethod yX12_fault) ∈ BW := bw (tb6 237 rfl) (by decide +kernel)
theorem m_1438 : (Cond.selects "NoonValleyModel" yX12_fault yX12_fault) ∈ BW := bw (tb6 238 rfl) (by decide +kernel)
theorem vL_33 : LV RL 33 RX12 yX12_fault cX12_fault 2 (some .int) 0 := ⟨m_1436, m_1437, m_1438, m_12, m_1439, rfl, by decide, by decide, by decide +kernel⟩
theorem m_475 : (Cond.methodLink "NoonValleyLaw" 34 yX11_valley) ∈ BW := bw (tb2 235 rfl) (by decide +kernel)
theorem m_476 : (Cond.instanceMethod yX11_valley) ∈ BW := bw (tb2 236 rfl) (by decide +kernel)
theorem m_477 : (Cond.selects "NoonValley" yX11_valley yX11_valley) ∈ BW := bw (tb2 237 rfl) (by decide +kernel)
theorem vL_34 : LV RL 34 RX11 yX11_valley cX11_valley 1 (some .int) 0 := ⟨m_475, m_476, m_477, m_1, m_478, rfl, by decide, by decide, by decide +kernel⟩
theorem m_1479 : (Cond.methodLink "NoonValleyLaw" 37 yX12_valley) ∈ BW := bw (tb7 39 rfl) (by decide +kernel)
theorem m_1480 : (Cond.instanceMethod yX12_valley) ∈ BW := bw (tb7 40 rfl) (by decide +kernel)
theorem m_1481 : (Cond.selects "NoonValleyModel" yX12_valley yX12_valley) ∈ BW := bw (tb7 41 rfl) (by decide +kernel)
theorem vL_37 : LV RL 37 RX12 yX12_valley cX12_valley 2 (some .int) 0 := ⟨m_1479, m_1480, m_1481, m_12, m_1482, rfl, by decide, by decide, by decide +kernel⟩
theorem m_517 : (Cond.methodLink "NoonValleyLaw" 38 yX11_told) ∈ BW := bw (tb3 37 rfl) (by decide +kernel)
theorem m_518 : (Cond.instanceMethod yX11_told) ∈ BW := bw (tb3 38 rfl) (by decide +kernel)
theorem m_519 : (Cond.selects "NoonValley" yX11_told yX11_told) ∈ BW := bw (tb3 39 rfl) (by decide +kernel)
theorem vL_38 : LV RL 38 RX11 yX11_told cX11_told 5 (some .int) 2 := ⟨m_517, m_518, m_519, m_1, m_520, rfl, by decide, by decide, by decide +kernel⟩
theorem m_1483 : (Cond.methodLink "NoonValleyLaw" 42 yX12_told) ∈ BW := bw (tb7 43 rfl) (by decide +kernel)
theorem m_1484 : (Cond.instanceMethod yX12_told) ∈ BW := bw (tb7 44 rfl) (by decide +kernel)
theorem m_1485 : (Cond.selects "NoonValleyModel" yX12_told yX12_told) ∈ BW := bw (tb7 45 rfl) (by decide +kernel)
theorem vL_42 : LV RL 42 RX12 yX12_told cX12_told 3 (some .int) 2 := ⟨m_1483, m_1484, m_1485, m_12, m_1486, rfl, by decide, by decide, by decide +kernel⟩
theorem m_1153 : (Cond.methodLink "NoonValleyLaw" 43 yL_line) ∈ BW := bw (tb5 193 rfl) (by decide +kernel)
theorem m_1154 : (Cond.static yL_line) ∈ BW := bw (tb5 194 rfl) (by decide +kernel)
theorem m_0 : (Cond.initialized "NoonValleyLaw") ∈ BW := bw (tb1 0 rfl) (by decide +kernel)
theorem m_1491 : (Cond.methodLink "NoonValleyLaw" 48 yX12_line) ∈ BW := bw (tb7 51 rfl) (by decide +kernel)
theorem m_1492 : (Cond.instanceMethod yX12_line) ∈ BW := bw (tb7 52 rfl) (by decide +kernel)
theorem m_1493 : (Cond.selects "NoonValleyModel" yX12_line yX12_line) ∈ BW := bw (tb7 53 rfl) (by decide +kernel)
theorem vL_48 : LV RL 48 RX12 yX12_line cX12_line 5 (some .int) 3 := ⟨m_1491, m_1492, m_1493, m_12, m_1494, rfl, by decide, by decide, by decide +kernel⟩
theorem m_525 : (Cond.methodLink "NoonValleyLaw" 49 yX11_down) ∈ BW := bw (tb3 45 rfl) (by decide +kernel)
theorem m_526 : (Cond.instanceMethod yX11_down) ∈ BW := bw (tb3 46 rfl) (by decide +kernel)
theorem m_527 : (Cond.selects "NoonValley" yX11_down yX11_down) ∈ BW := bw (tb3 47 rfl) (by decide +kernel)
theorem vL_49 : LV RL 49 RX11 yX11_down cX11_down 5 (some .boolean) 3 := ⟨m_525, m_526, m_527, m_1, m_528, rfl, by decide, by decide, by decide +kernel⟩
theorem m_1499 : (Cond.methodLink "NoonValleyLaw" 53 yX12_down) ∈ BW := bw (tb7 59 rfl) (by decide +kernel)
theorem m_1500 : (Cond.instanceMethod yX12_down) ∈ BW := bw (tb7 60 rfl) (by decide +kernel)
theorem m_1501 : (Cond.selects "NoonValleyModel" yX12_down yX12_down) ∈ BW := bw (tb7 61 rfl) (by decide +kernel)
theorem vL_53 : LV RL 53 RX12 yX12_down cX12_down 4 (some .boolean) 3 := ⟨m_1499, m_1500, m_1501, m_12, m_1502, rfl, by decide, by decide, by decide +kernel⟩
theorem m_540 : (Cond.methodLink "NoonValleyLaw" 54 yX11_may) ∈ BW := bw (tb3 60 rfl) (by decide +kernel)
theorem m_541 : (Cond.instanceMethod yX11_may) ∈ BW := bw (tb3 61 rfl) (by decide +kernel)
theorem m_542 : (Cond.selects "NoonValley" yX11_may yX11_may) ∈ BW := bw (tb3 62 rfl) (by decide +kernel)
theorem vL_54 : LV RL 54 RX11 yX11_may cX11_may 6 (some .int) 4 := ⟨m_540, m_541, m_542, m_1, m_543, rfl, by decide, by decide, by decide +kernel⟩
theorem m_1506 : (Cond.methodLink "NoonValleyLaw" 58 yX12_may) ∈ BW := bw (tb7 66 rfl) (by decide +kernel)
theorem m_1507 : (Cond.instanceMethod yX12_may) ∈ BW := bw (tb7 67 rfl) (by decide +kernel)
theorem m_1508 : (Cond.selects "NoonValleyModel" yX12_may yX12_may) ∈ BW := bw (tb7 68 rfl) (by decide +kernel)
theorem vL_58 : LV RL 58 RX12 yX12_may cX12_may 5 (some .int) 4 := ⟨m_1506, m_1507, m_1508, m_12, m_1509, rfl, by decide, by decide, by decide +kernel⟩
theorem m_557 : (Cond.methodLink "NoonValleyLaw" 59 yX11_plan) ∈ BW := bw (tb3 77 rfl) (by decide +kernel)
theorem m_558 : (Cond.instanceMethod yX11_plan) ∈ BW := bw (tb3 78 rfl) (by decide +kernel)
theorem m_559 : (Cond.selects "NoonValley" yX11_plan yX11_plan) ∈ BW := bw (tb3 79 rfl) (by decide +kernel)
theorem vL_59 : LV RL 59 RX11 yX11_plan cX11_plan 3 (some .int) 1 := ⟨m_557, m_558, m_559, m_1, m_560, rfl, by decide, by decide, by decide +kernel⟩
theorem m_1526 : (Cond.methodLink "NoonValleyLaw" 63 yX12_plan) ∈ BW := bw (tb7 86 rfl) (by decide +kernel)
theorem m_1527 : (Cond.instanceMethod yX12_plan) ∈ BW := bw (tb7 87 rfl) (by decide +kernel)
theorem m_1528 : (Cond.selects "NoonValleyModel" yX12_plan yX12_plan) ∈ BW := bw (tb7 88 rfl) (by decide +kernel)
theorem vL_63 : LV RL 63 RX12 yX12_plan cX12_plan 2 (some .int) 1 := ⟨m_1526, m_1527, m_1528, m_12, m_1529, rfl, by decide, by decide, by decide +kernel⟩
theorem m_606 : (Cond.methodLink "NoonValleyLaw" 64 yX11_call) ∈ BW := bw (tb3 126 rfl) (by decide +kernel)
theorem m_607 : (Cond.instanceMethod yX11_call) ∈ BW := bw (tb3 127 rfl) (by decide +kernel)
theorem m_608 : (Cond.selects "NoonValley" yX11_call yX11_call) ∈ BW := bw (tb3 128 rfl) (by decide +kernel)
theorem vL_64 : LV RL 64 RX11 yX11_call cX11_call 8 (some .int) 5 := ⟨m_606, m_607, m_608, m_1, m_609, rfl, by decide, by decide, by decide +kernel⟩
theorem m_1530 : (Cond.methodLink "NoonValleyLaw" 67 yX12_call) ∈ BW := bw (tb7 90 rfl) (by decide +kernel)
theorem m_1531 : (Cond.instanceMethod yX12_call) ∈ BW := bw (tb7 91 rfl) (by decide +kernel)
theorem m_1532 : (Cond.selects "NoonValleyModel" yX12_call yX12_call) ∈ BW := bw (tb7 92 rfl) (by decide +kernel)
theorem vL_67 : LV RL 67 RX12 yX12_call cX12_call 7 (some .int) 5 := ⟨m_1530, m_1531, m_1532, m_12, m_1533, rfl, by decide, by decide, by decide +kernel⟩
theorem m_624 : (Cond.methodLink "NoonValleyLaw" 68 yX11_lawful) ∈ BW := bw (tb3 144 rfl) (by decide +kernel)
theorem m_625 : (Cond.instanceMethod yX11_lawful) ∈ BW := bw (tb3 145 rfl) (by decide +kernel)
theorem m_626 : (Cond.selects "NoonValley" yX11_lawful yX11_lawful) ∈ BW := bw (tb3 146 rfl) (by decide +kernel)
theorem vL_68 : LV RL 68 RX11 yX11_lawful cX11_lawful 4 (some .int) 2 := ⟨m_624, m_625, m_626, m_1, m_627, rfl, by decide, by decide, by decide +kernel⟩
theorem m_1538 : (Cond.methodLink "NoonValleyLaw" 71 yX12_lawful) ∈ BW := bw (tb7 98 rfl) (by decide +kernel)
theorem m_1539 : (Cond.instanceMethod yX12_lawful) ∈ BW := bw (tb7 99 rfl) (by decide +kernel)
theorem m_1540 : (Cond.selects "NoonValleyModel" yX12_lawful yX12_lawful) ∈ BW := bw (tb7 100 rfl) (by decide +kernel)
theorem vL_71 : LV RL 71 RX12 yX12_lawful cX12_lawful 3 (some .int) 2 := ⟨m_1538, m_1539, m_1540, m_12, m_1541, rfl, by decide, by decide, by decide +kernel⟩
theorem m_637 : (Cond.methodLink "NoonValleyLaw" 72 yX11_unlawful) ∈ BW := bw (tb3 157 rfl) (by decide +kernel)
theorem m_638 : (Cond.instanceMethod yX11_unlawful) ∈ BW := bw (tb3 158 rfl) (by decide +kernel)
theorem m_639 : (Cond.selects "NoonValley" yX11_unlawful yX11_unlawful) ∈ BW := bw (tb3 159 rfl) (by decide +kernel)
theorem vL_72 : LV RL 72 RX11 yX11_unlawful cX11_unlawful 4 (some .int) 1 := ⟨m_637, m_638, m_639, m_1, m_640, rfl, by decide, by decide, by decide +kernel⟩
theorem m_1554 : (Cond.methodLink "NoonValleyLaw" 75 yX12_unlawful) ∈ BW := bw (tb7 114 rfl) (by decide +kernel)
theorem m_1555 : (Cond.instanceMethod yX12_unlawful) ∈ BW := bw (tb7 115 rfl) (by decide +kernel)
theorem m_1556 : (Cond.selects "NoonValleyModel" yX12_unlawful yX12_unlawful) ∈ BW := bw (tb7 116 rfl) (by decide +kernel)
theorem vL_75 : LV RL 75 RX12 yX12_unlawful cX12_unlawful 3 (some .int) 1 := ⟨m_1554, m_1555, m_1556, m_12, m_1557, rfl, by decide, by decide, by decide +kernel⟩
theorem m_641 : (Cond.methodLink "NoonValleyLaw" 76 yX11_known) ∈ BW := bw (tb3 161 rfl) (by decide +kernel)
theorem m_642 : (Cond.instanceMethod yX11_known) ∈ BW := bw (tb3 162 rfl) (by decide +kernel)
theorem m_643 : (Cond.selects "NoonValley" yX11_known yX11_known) ∈ BW := bw (tb3 163 rfl) (by decide +kernel)
theorem vL_76 : LV RL 76 RX11 yX11_known cX11_known 5 (some .int) 3 := ⟨m_641, m_642, m_643, m_1, m_644, rfl, by decide, by decide, by decide +kernel⟩
theorem m_1558 : (Cond.methodLink "NoonValleyLaw" 79 yX12_known) ∈ BW := bw (tb7 118 rfl) (by decide +kernel)
theorem m_1559 : (Cond.instanceMethod yX12_known) ∈ BW := bw (tb7 119 rfl) (by decide +kernel)
theorem m_1560 : (Cond.selects "NoonValleyModel" yX12_known yX12_known) ∈ BW := bw (tb7 120 rfl) (by decide +kernel)
theorem vL_79 : LV RL 79 RX12 yX12_known cX12_known 4 (some .int) 3 := ⟨m_1558, m_1559, m_1560, m_12, m_1561, rfl, by decide, by decide, by decide +kernel⟩
theorem m_670 : (Cond.methodLink "NoonValleyLaw" 80 yX11_together) ∈ BW := bw (tb3 190 rfl) (by decide +kernel)
theorem m_671 : (Cond.instanceMethod yX11_together) ∈ BW := bw (tb3 191 rfl) (by decide +kernel)
theorem m_672 : (Cond.selects "NoonValley" yX11_together yX11_together) ∈ BW := bw (tb3 192 rfl) (by decide +kernel)
theorem vL_80 : LV RL 80 RX11 yX11_together cX11_together 7 (some .int) 3 := ⟨m_670, m_671, m_672, m_1, m_673, rfl, by decide, by decide, by decide +kernel⟩
theorem m_1578 : (Cond.methodLink "NoonValleyLaw" 83 yX12_together) ∈ BW := bw (tb7 138 rfl) (by decide +kernel)
theorem m_1579 : (Cond.instanceMethod yX12_together) ∈ BW := bw (tb7 139 rfl) (by decide +kernel)
theorem m_1580 : (Cond.selects "NoonValleyModel" yX12_together yX12_together) ∈ BW := bw (tb7 140 rfl) (by decide +kernel)
theorem vL_83 : LV RL 83 RX12 yX12_together cX12_together 6 (some .int) 3 := ⟨m_1578, m_1579, m_1580, m_12, m_1581, rfl, by decide, by decide, by decide +kernel⟩
theorem m_678 : (Cond.methodLink "NoonValleyLaw" 84 yX11_when) ∈ BW := bw (tb3 198 rfl) (by decide +kernel)
theorem m_679 : (Cond.instanceMethod yX11_when) ∈ BW := bw (tb3 199 rfl) (by decide +kernel)
theorem m_680 : (Cond.selects "NoonValley" yX11_when yX11_when) ∈ BW := bw (tb3 200 rfl) (by decide +kernel)
theorem vL_84 : LV RL 84 RX11 yX11_when cX11_when 5 (some .int) 2 := ⟨m_678, m_679, m_680, m_1, m_681, rfl, by decide, by decide, by decide +kernel⟩
theorem m_1586 : (Cond.methodLink "NoonValleyLaw" 87 yX12_when) ∈ BW := bw (tb7 146 rfl) (by decide +kernel)
theorem m_1587 : (Cond.instanceMethod yX12_when) ∈ BW := bw (tb7 147 rfl) (by decide +kernel)
theorem m_1588 : (Cond.selects "NoonValleyModel" yX12_when yX12_when) ∈ BW := bw (tb7 148 rfl) (by decide +kernel)
theorem vL_87 : LV RL 87 RX12 yX12_when cX12_when 6 (some .int) 2 := ⟨m_1586, m_1587, m_1588, m_12, m_1589, rfl, by decide, by decide, by decide +kernel⟩
theorem m_690 : (Cond.methodLink "NoonValleyLaw" 88 yX11_least) ∈ BW := bw (tb3 210 rfl) (by decide +kernel)
theorem m_691 : (Cond.instanceMethod yX11_least) ∈ BW := bw (tb3 211 rfl) (by decide +kernel)
theorem m_692 : (Cond.selects "NoonValley" yX11_least yX11_least) ∈ BW := bw (tb3 212 rfl) (by decide +kernel)
theorem vL_88 : LV RL 88 RX11 yX11_least cX11_least 5 (some .int) 3 := ⟨m_690, m_691, m_692, m_1, m_693, rfl, by decide, by decide, by decide +kernel⟩
theorem m_1598 : (Cond.methodLink "NoonValleyLaw" 91 yX12_least) ∈ BW := bw (tb7 158 rfl) (by decide +kernel)
theorem m_1599 : (Cond.instanceMethod yX12_least) ∈ BW := bw (tb7 159 rfl) (by decide +kernel)
theorem m_1600 : (Cond.selects "NoonValleyModel" yX12_least yX12_least) ∈ BW := bw (tb7 160 rfl) (by decide +kernel)
theorem vL_91 : LV RL 91 RX12 yX12_least cX12_least 5 (some .int) 3 := ⟨m_1598, m_1599, m_1600, m_12, m_1601, rfl, by decide, by decide, by decide +kernel⟩
theorem m_781 : (Cond.methodLink "NoonValleyLaw" 92 yX11_found) ∈ BW := bw (tb4 61 rfl) (by decide +kernel)
theorem m_782 : (Cond.instanceMethod yX11_found) ∈ BW := bw (tb4 62 rfl) (by decide +kernel)
theorem m_783 : (Cond.selects "NoonValley" yX11_found yX11_found) ∈ BW := bw (tb4 63 rfl) (by decide +kernel)
theorem vL_92 : LV RL 92 RX11 yX11_found cX11_found 8 (some .int) 5 := ⟨m_781, m_782, m_783, m_1, m_784, rfl, by decide, by decide, by decide +kernel⟩
theorem m_1630 : (Cond.methodLink "NoonValleyLaw" 95 yX12_found) ∈ BW := bw (tb7 190 rfl) (by decide +kernel)
theorem m_1631 : (Cond.instanceMethod yX12_found) ∈ BW := bw (tb7 191 rfl) (by decide +kernel)
theorem m_1632 : (Cond.selects "NoonValleyModel" yX12_found yX12_found) ∈ BW := bw (tb7 192 rfl) (by decide +kernel)
theorem vL_95 : LV RL 95 RX12 yX12_found cX12_found 11 (some .int) 5 := ⟨m_1630, m_1631, m_1632, m_12, m_1633, rfl, by decide, by decide, by decide +kernel⟩
theorem m_801 : (Cond.methodLink "NoonValleyLaw" 96 yX11_reach) ∈ BW := bw (tb4 81 rfl) (by decide +kernel)
theorem m_802 : (Cond.instanceMethod yX11_reach) ∈ BW := bw (tb4 82 rfl) (by decide +kernel)
theorem m_803 : (Cond.selects "NoonValley" yX11_reach yX11_reach) ∈ BW := bw (tb4 83 rfl) (by decide +kernel)
theorem vL_96 : LV RL 96 RX11 yX11_reach cX11_reach 6 (some .int) 4 := ⟨m_801, m_802, m_803, m_1, m_804, rfl, by decide, by decide, by decide +kernel⟩
theorem m_1650 : (Cond.methodLink "NoonValleyLaw" 99 yX12_reach) ∈ BW := bw (tb7 210 rfl) (by decide +kernel)
theorem m_1651 : (Cond.instanceMethod yX12_reach) ∈ BW := bw (tb7 211 rfl) (by decide +kernel)
theorem m_1652 : (Cond.selects "NoonValleyModel" yX12_reach yX12_reach) ∈ BW := bw (tb7 212 rfl) (by decide +kernel)
theorem vL_99 : LV RL 99 RX12 yX12_reach cX12_reach 9 (some .int) 4 := ⟨m_1650, m_1651, m_1652, m_12, m_1653, rfl, by decide, by decide, by decide +kernel⟩
theorem m_818 : (Cond.methodLink "NoonValleyLaw" 100 yX11_from) ∈ BW := bw (tb4 98 rfl) (by decide +kernel)
theorem m_819 : (Cond.instanceMethod yX11_from) ∈ BW := bw (tb4 99 rfl) (by decide +kernel)
theorem m_820 : (Cond.selects "NoonValley" yX11_from yX11_from) ∈ BW := bw (tb4 100 rfl) (by decide +kernel)
theorem vL_100 : LV RL 100 RX11 yX11_from cX11_from 5 (some .int) 3 := ⟨m_818, m_819, m_820, m_1, m_821, rfl, by decide, by decide, by decide +kernel⟩
theorem m_1638 : (Cond.methodLink "NoonValleyLaw" 103 yX12_from) ∈ BW := bw (tb7 198 rfl) (by decide +kernel)
theorem m_1639 : (Cond.instanceMethod yX12_from) ∈ BW := bw (tb7 199 rfl) (by decide +kernel)
theorem m_1640 : (Cond.selects "NoonValleyModel" yX12_from yX12_from) ∈ BW := bw (tb7 200 rfl) (by decide +kernel)
theorem vL_103 : LV RL 103 RX12 yX12_from cX12_from 8 (some .int) 3 := ⟨m_1638, m_1639, m_1640, m_12, m_1641, rfl, by decide, by decide, by decide +kernel⟩
theorem m_833 : (Cond.methodLink "NoonValleyLaw" 104 yX11_added) ∈ BW := bw (tb4 113 rfl) (by decide +kernel)
theorem m_834 : (Cond.instanceMethod yX11_added) ∈ BW := bw (tb4 114 rfl) (by decide +kernel)
theorem m_835 : (Cond.selects "NoonValley" yX11_added yX11_added) ∈ BW := bw (tb4 115 rfl) (by decide +kernel)
theorem vL_104 : LV RL 104 RX11 yX11_added cX11_added 5 (some .int) 3 := ⟨m_833, m_834, m_835, m_1, m_836, rfl, by decide, by decide, by decide +kernel⟩
theorem m_1642 : (Cond.methodLink "NoonValleyLaw" 107 yX12_added) ∈ BW := bw (tb7 202 rfl) (by decide +kernel)
theorem m_1643 : (Cond.instanceMethod yX12_added) ∈ BW := bw (tb7 203 rfl) (by decide +kernel)
theorem m_1644 : (Cond.selects "NoonValleyModel" yX12_added yX12_added) ∈ BW := bw (tb7 204 rfl) (by decide +kernel)
theorem vL_107 : LV RL 107 RX12 yX12_added cX12_added 11 (some .int) 3 := ⟨m_1642, m_1643, m_1644, m_12, m_1645, rfl, by decide, by decide, by decide +kernel⟩
theorem m_854 : (Cond.methodLink "NoonValleyLaw" 108 yX11_shut) ∈ BW := bw (tb4 134 rfl) (by decide +kernel)
theorem m_855 : (Cond.instanceMethod yX11_shut) ∈ BW := bw (tb4 135 rfl) (by decide +kernel)
theorem m_856 : (Cond.selects "NoonValley" yX11_shut yX11_shut) ∈ BW := bw (tb4 136 rfl) (by decide +kernel)
theorem vL_108 : LV RL 108 RX11 yX11_shut cX11_shut 6 (some .int) 4 := ⟨m_854, m_855, m_856, m_1, m_857, rfl, by decide, by decide, by decide +kernel⟩
theorem m_1659 : (Cond.methodLink "NoonValleyLaw" 111 yX12_shut) ∈ BW := bw (tb7 219 rfl) (by decide +kernel)
theorem m_1660 : (Cond.instanceMethod yX12_shut) ∈ BW := bw (tb7 220 rfl) (by decide +kernel)
theorem m_1661 : (Cond.selects "NoonValleyModel" yX12_shut yX12_shut) ∈ BW := bw (tb7 221 rfl) (by decide +kernel)
theorem vL_111 : LV RL 111 RX12 yX12_shut cX12_shut 9 (some .int) 4 := ⟨m_1659, m_1660, m_1661, m_12, m_1662, rfl, by decide, by decide, by decide +kernel⟩
theorem m_879 : (Cond.methodLink "NoonValleyLaw" 112 yX11_fewest) ∈ BW := bw (tb4 159 rfl) (by decide +kernel)
theorem m_880 : (Cond.instanceMethod yX11_fewest) ∈ BW := bw (tb4 160 rfl) (by decide +kernel)
theorem m_881 : (Cond.selects "NoonValley" yX11_fewest yX11_fewest) ∈ BW := bw (tb4 161 rfl) (by decide +kernel)
theorem vL_112 : LV RL 112 RX11 yX11_fewest cX11_fewest 3 (some .int) 1 := ⟨m_879, m_880, m_881, m_1, m_882, rfl, by decide, by decide, by decide +kernel⟩
theorem m_1667 : (Cond.methodLink "NoonValleyLaw" 115 yX12_fewest) ∈ BW := bw (tb7 227 rfl) (by decide +kernel)
theorem m_1668 : (Cond.instanceMethod yX12_fewest) ∈ BW := bw (tb7 228 rfl) (by decide +kernel)
theorem m_1669 : (Cond.selects "NoonValleyModel" yX12_fewest yX12_fewest) ∈ BW := bw (tb7 229 rfl) (by decide +kernel)
theorem vL_115 : LV RL 115 RX12 yX12_fewest cX12_fewest 2 (some .int) 1 := ⟨m_1667, m_1668, m_1669, m_12, m_1670, rfl, by decide, by decide, by decide +kernel⟩
theorem m_919 : (Cond.methodLink "NoonValleyLaw" 116 yX11_gossip) ∈ BW := bw (tb4 199 rfl) (by decide +kernel)
theorem m_920 : (Cond.instanceMethod yX11_gossip) ∈ BW := bw (tb4 200 rfl) (by decide +kernel)
theorem m_921 : (Cond.selects "NoonValley" yX11_gossip yX11_gossip) ∈ BW := bw (tb4 201 rfl) (by decide +kernel)
theorem vL_116 : LV RL 116 RX11 yX11_gossip cX11_gossip 4 (some .int) 2 := ⟨m_919, m_920, m_921, m_1, m_922, rfl, by decide, by decide, by decide +kernel⟩
theorem m_1683 : (Cond.methodLink "NoonValleyLaw" 119 yX12_gossip) ∈ BW := bw (tb8 3 rfl) (by decide +kernel)
theorem m_1684 : (Cond.instanceMethod yX12_gossip) ∈ BW := bw (tb8 4 rfl) (by decide +kernel)
theorem m_1685 : (Cond.selects "NoonValleyModel" yX12_gossip yX12_gossip) ∈ BW := bw (tb8 5 rfl) (by decide +kernel)
theorem vL_119 : LV RL 119 RX12 yX12_gossip cX12_gossip 4 (some .int) 2 := ⟨m_1683, m_1684, m_1685, m_12, m_1686, rfl, by decide, by decide, by decide +kernel⟩
theorem m_923 : (Cond.methodLink "NoonValleyLaw" 120 yX11_ends) ∈ BW := bw (tb4 203 rfl) (by decide +kernel)
theorem m_924 : (Cond.instanceMethod yX11_ends) ∈ BW := bw (tb4 204 rfl) (by decide +kernel)
theorem m_925 : (Cond.selects "NoonValley" yX11_ends yX11_ends) ∈ BW := bw (tb4 205 rfl) (by decide +kernel)
theorem vL_120 : LV RL 120 RX11 yX11_ends cX11_ends 4 (some .int) 2 := ⟨m_923, m_924, m_925, m_1, m_926, rfl, by decide, by decide, by decide +kernel⟩
theorem m_1687 : (Cond.methodLink "NoonValleyLaw" 123 yX12_ends) ∈ BW := bw (tb8 7 rfl) (by decide +kernel)
theorem m_1688 : (Cond.instanceMethod yX12_ends) ∈ BW := bw (tb8 8 rfl) (by decide +kernel)
theorem m_1689 : (Cond.selects "NoonValleyModel" yX12_ends yX12_ends) ∈ BW := bw (tb8 9 rfl) (by decide +kernel)
theorem vL_123 : LV RL 123 RX12 yX12_ends cX12_ends 4 (some .int) 2 := ⟨m_1687, m_1688, m_1689, m_12, m_1690, rfl, by decide, by decide, by decide +kernel⟩
theorem m_930 : (Cond.methodLink "NoonValleyLaw" 124 yX11_trade) ∈ BW := bw (tb4 210 rfl) (by decide +kernel)
theorem m_931 : (Cond.instanceMethod yX11_trade) ∈ BW := bw (tb4 211 rfl) (by decide +kernel)
theorem m_932 : (Cond.selects "NoonValley" yX11_trade yX11_trade) ∈ BW := bw (tb4 212 rfl) (by decide +kernel)
theorem vL_124 : LV RL 124 RX11 yX11_trade cX11_trade 6 (some .int) 3 := ⟨m_930, m_931, m_932, m_1, m_933, rfl, by decide, by decide, by decide +kernel⟩
theorem m_1691 : (Cond.methodLink "NoonValleyLaw" 127 yX12_trade) ∈ BW := bw (tb8 11 rfl) (by decide +kernel)
theorem m_1692 : (Cond.instanceMethod yX12_trade) ∈ BW := bw (tb8 12 rfl) (by decide +kernel)
theorem m_1693 : (Cond.selects "NoonValleyModel" yX12_trade yX12_trade) ∈ BW := bw (tb8 13 rfl) (by decide +kernel)
theorem vL_127 : LV RL 127 RX12 yX12_trade cX12_trade 6 (some .int) 3 := ⟨m_1691, m_1692, m_1693, m_12, m_1694, rfl, by decide, by decide, by decide +kernel⟩
theorem m_978 : (Cond.methodLink "NoonValleyLaw" 128 yX11_card) ∈ BW := bw (tb5 18 rfl) (by decide +kernel)
theorem m_979 : (Cond.instanceMethod yX11_card) ∈ BW := bw (tb5 19 rfl) (by decide +kernel)
theorem m_980 : (Cond.selects "NoonValley" yX11_card yX11_card) ∈ BW := bw (tb5 20 rfl) (by decide +kernel)
theorem vL_128 : LV RL 128 RX11 yX11_card cX11_card 5 (some .int) 3 := ⟨m_978, m_979, m_980, m_1, m_981, rfl, by decide, by decide, by decide +kernel⟩
theorem m_1710 : (Cond.methodLink "NoonValleyLaw" 131 yX12_card) ∈ BW := bw (tb8 30 rfl) (by decide +kernel)
theorem m_1711 : (Cond.instanceMethod yX12_card) ∈ BW := bw (tb8 31 rfl) (by decide +kernel)
theorem m_1712 : (Cond.selects "NoonValleyModel" yX12_card yX12_card) ∈ BW := bw (tb8 32 rfl) (by decide +kernel)
theorem vL_131 : LV RL 131 RX12 yX12_card cX12_card 5 (some .int) 3 := ⟨m_1710, m_1711, m_1712, m_12, m_1713, rfl, by decide, by decide, by decide +kernel⟩
theorem m_986 : (Cond.methodLink "NoonValleyLaw" 132 yX11_blank) ∈ BW := bw (tb5 26 rfl) (by decide +kernel)
theorem m_987 : (Cond.instanceMethod yX11_blank) ∈ BW := bw (tb5 27 rfl) (by decide +kernel)
theorem m_988 : (Cond.selects "NoonValley" yX11_blank yX11_blank) ∈ BW := bw (tb5 28 rfl) (by decide +kernel)
theorem vL_132 : LV RL 132 RX11 yX11_blank cX11_blank 3 (some .boolean) 1 := ⟨m_986, m_987, m_988, m_1, m_989, rfl, by decide, by decide, by decide +kernel⟩
theorem m_1714 : (Cond.methodLink "NoonValleyLaw" 135 yX12_blank) ∈ BW := bw (tb8 34 rfl) (by decide +kernel)
theorem m_1715 : (Cond.instanceMethod yX12_blank) ∈ BW := bw (tb8 35 rfl) (by decide +kernel)
theorem m_1716 : (Cond.selects "NoonValleyModel" yX12_blank yX12_blank) ∈ BW := bw (tb8 36 rfl) (by decide +kernel)
theorem vL_135 : LV RL 135 RX12 yX12_blank cX12_blank 3 (some .boolean) 1 := ⟨m_1714, m_1715, m_1716, m_12, m_1717, rfl, by decide, by decide, by decide +kernel⟩
theorem m_994 : (Cond.methodLink "NoonValleyLaw" 136 yX11_kept) ∈ BW := bw (tb5 34 rfl) (by decide +kernel)
theorem m_995 : (Cond.instanceMethod yX11_kept) ∈ BW := bw (tb5 35 rfl) (by decide +kernel)
theorem m_996 : (Cond.selects "NoonValley" yX11_kept yX11_kept) ∈ BW := bw (tb5 36 rfl) (by decide +kernel)
theorem vL_136 : LV RL 136 RX11 yX11_kept cX11_kept 4 (some .int) 2 := ⟨m_994, m_995, m_996, m_1, m_997, rfl, by decide, by decide, by decide +kernel⟩
theorem m_1718 : (Cond.methodLink "NoonValleyLaw" 139 yX12_kept) ∈ BW := bw (tb8 38 rfl) (by decide +kernel)
theorem m_1719 : (Cond.instanceMethod yX12_kept) ∈ BW := bw (tb8 39 rfl) (by decide +kernel)
theorem m_1720 : (Cond.selects "NoonValleyModel" yX12_kept yX12_kept) ∈ BW := bw (tb8 40 rfl) (by decide +kernel)
theorem vL_139 : LV RL 139 RX12 yX12_kept cX12_kept 10 (some .int) 2 := ⟨m_1718, m_1719, m_1720, m_12, m_1721, rfl, by decide, by decide, by decide +kernel⟩
theorem m_1014 : (Cond.methodLink "NoonValleyLaw" 140 yX11_tree) ∈ BW := bw (tb5 54 rfl) (by decide +kernel)
theorem m_1015 : (Cond.instanceMethod yX11_tree) ∈ BW := bw (tb5 55 rfl) (by decide +kernel)
theorem m_1016 : (Cond.selects "NoonValley" yX11_tree yX11_tree) ∈ BW := bw (tb5 56 rfl) (by decide +kernel)
theorem vL_140 : LV RL 140 RX11 yX11_tree cX11_tree 6 (some .int) 4 := ⟨m_1014, m_1015, m_1016, m_1, m_1017, rfl, by decide, by decide, by decide +kernel⟩
theorem m_1722 : (Cond.methodLink "NoonValleyLaw" 143 yX12_tree) ∈ BW := bw (tb8 42 rfl) (by decide +kernel)
theorem m_1723 : (Cond.instanceMethod yX12_tree) ∈ BW := bw (tb8 43 rfl) (by decide +kernel)
theorem m_1724 : (Cond.selects "NoonValleyModel" yX12_tree yX12_tree) ∈ BW := bw (tb8 44 rfl) (by decide +kernel)
theorem vL_143 : LV RL 143 RX12 yX12_tree cX12_tree 5 (some .int) 4 := ⟨m_1722, m_1723, m_1724, m_12, m_1725, rfl, by decide, by decide, by decide +kernel⟩
theorem m_1041 : (Cond.methodLink "NoonValleyLaw" 144 yX11_breaks) ∈ BW := bw (tb5 81 rfl) (by decide +kernel)
theorem m_1042 : (Cond.instanceMethod yX11_breaks) ∈ BW := bw (tb5 82 rfl) (by decide +kernel)
theorem m_1043 : (Cond.selects "NoonValley" yX11_breaks yX11_breaks) ∈ BW := bw (tb5 83 rfl) (by decide +kernel)
theorem vL_144 : LV RL 144 RX11 yX11_breaks cX11_breaks 5 (some .int) 2 := ⟨m_1041, m_1042, m_1043, m_1, m_1044, rfl, by decide, by decide, by decide +kernel⟩
theorem m_1739 : (Cond.methodLink "NoonValleyLaw" 147 yX12_breaks) ∈ BW := bw (tb8 59 rfl) (by decide +kernel)
theorem m_1740 : (Cond.instanceMethod yX12_breaks) ∈ BW := bw (tb8 60 rfl) (by decide +kernel)
theorem m_1741 : (Cond.selects "NoonValleyModel" yX12_breaks yX12_breaks) ∈ BW := bw (tb8 61 rfl) (by decide +kernel)
theorem vL_147 : LV RL 147 RX12 yX12_breaks cX12_breaks 4 (some .int) 2 := ⟨m_1739, m_1740, m_1741, m_12, m_1742, rfl, by decide, by decide, by decide +kernel⟩
theorem m_1063 : (Cond.methodLink "NoonValleyLaw" 148 yX11_breaker) ∈ BW := bw (tb5 103 rfl) (by decide +kernel)
theorem m_1064 : (Cond.instanceMethod yX11_breaker) ∈ BW := bw (tb5 104 rfl) (by decide +kernel)
theorem m_1065 : (Cond.selects "NoonValley" yX11_breaker yX11_breaker) ∈ BW := bw (tb5 105 rfl) (by decide +kernel)
theorem vL_148 : LV RL 148 RX11 yX11_breaker cX11_breaker 3 (some .int) 1 := ⟨m_1063, m_1064, m_1065, m_1, m_1066, rfl, by decide, by decide, by decide +kernel⟩
theorem m_1751 : (Cond.methodLink "NoonValleyLaw" 151 yX12_breaker) ∈ BW := bw (tb8 71 rfl) (by decide +kernel)
theorem m_1752 : (Cond.instanceMethod yX12_breaker) ∈ BW := bw (tb8 72 rfl) (by decide +kernel)
theorem m_1753 : (Cond.selects "NoonValleyModel" yX12_breaker yX12_breaker) ∈ BW := bw (tb8 73 rfl) (by decide +kernel)
theorem vL_151 : LV RL 151 RX12 yX12_breaker cX12_breaker 3 (some .int) 1 := ⟨m_1751, m_1752, m_1753, m_12, m_1754, rfl, by decide, by decide, by decide +kernel⟩
theorem m_1071 : (Cond.methodLink "NoonValleyLaw" 152 yX11_ways) ∈ BW := bw (tb5 111 rfl) (by decide +kernel)
theorem m_1072 : (Cond.instanceMethod yX11_ways) ∈ BW := bw (tb5 112 rfl) (by decide +kernel)
theorem m_1073 : (Cond.selects "NoonValley" yX11_ways yX11_ways) ∈ BW := bw (tb5 113 rfl) (by decide +kernel)
theorem vL_152 : LV RL 152 RX11 yX11_ways cX11_ways 4 (some .long) 3 := ⟨m_1071, m_1072, m_1073, m_1, m_1074, rfl, by decide, by decide, by decide +kernel⟩
theorem m_1755 : (Cond.methodLink "NoonValleyLaw" 156 yX12_ways) ∈ BW := bw (tb8 75 rfl) (by decide +kernel)
theorem m_1756 : (Cond.instanceMethod yX12_ways) ∈ BW := bw (tb8 76 rfl) (by decide +kernel)
theorem m_1757 : (Cond.selects "NoonValleyModel" yX12_ways yX12_ways) ∈ BW := bw (tb8 77 rfl) (by decide +kernel)
theorem vL_156 : LV RL 156 RX12 yX12_ways cX12_ways 7 (some .long) 3 := ⟨m_1755, m_1756, m_1757, m_12, m_1758, rfl, by decide, by decide, by decide +kernel⟩
theorem m_1802 : (Cond.constantLong "NoonValleyLaw" 157 (4294967295 : Int64)) ∈ BW := bw (tb8 122 rfl) (by decide +kernel)
theorem m_1095 : (Cond.methodLink "NoonValleyLaw" 159 yX11_drawn) ∈ BW := bw (tb5 135 rfl) (by decide +kernel)
theorem m_1096 : (Cond.instanceMethod yX11_drawn) ∈ BW := bw (tb5 136 rfl) (by decide +kernel)
theorem m_1097 : (Cond.selects "NoonValley" yX11_drawn yX11_drawn) ∈ BW := bw (tb5 137 rfl) (by decide +kernel)
theorem vL_159 : LV RL 159 RX11 yX11_drawn cX11_drawn 5 (some .int) 3 := ⟨m_1095, m_1096, m_1097, m_1, m_1098, rfl, by decide, by decide, by decide +kernel⟩
theorem m_1764 : (Cond.methodLink "NoonValleyLaw" 163 yX12_drawn) ∈ BW := bw (tb8 84 rfl) (by decide +kernel)
theorem m_1765 : (Cond.instanceMethod yX12_drawn) ∈ BW := bw (tb8 85 rfl) (by decide +kernel)
theorem m_1766 : (Cond.selects "NoonValleyModel" yX12_drawn yX12_drawn) ∈ BW := bw (tb8 86 rfl) (by decide +kernel)
theorem vL_163 : LV RL 163 RX12 yX12_drawn cX12_drawn 13 (some .int) 3 := ⟨m_1764, m_1765, m_1766, m_12, m_1767, rfl, by decide, by decide, by decide +kernel⟩
theorem m_1105 : (Cond.methodLink "NoonValleyLaw" 164 yX11_tale) ∈ BW := bw (tb5 145 rfl) (by decide +kernel)
theorem m_1106 : (Cond.instanceMethod yX11_tale) ∈ BW := bw (tb5 146 rfl) (by decide +kernel)
theorem m_1107 : (Cond.selects "NoonValley" yX11_tale yX11_tale) ∈ BW := bw (tb5 147 rfl) (by decide +kernel)
theorem vL_164 : LV RL 164 RX11 yX11_tale cX11_tale 6 (some .boolean) 4 := ⟨m_1105, m_1106, m_1107, m_1, m_1108, rfl, by decide, by decide, by decide +kernel⟩
theorem m_1770 : (Cond.methodLink "NoonValleyLaw" 168 yX12_tale) ∈ BW := bw (tb8 90 rfl) (by decide +kernel)
theorem m_1771 : (Cond.instanceMethod yX12_tale) ∈ BW := bw (tb8 91 rfl) (by decide +kernel)
theorem m_1772 : (Cond.selects "NoonValleyModel" yX12_tale yX12_tale) ∈ BW := bw (tb8 92 rfl) (by decide +kernel)
theorem vL_168 : LV RL 168 RX12 yX12_tale cX12_tale 5 (some .boolean) 4 := ⟨m_1770, m_1771, m_1772, m_12, m_1773, rfl, by decide, by decide, by decide +kernel⟩
theorem m_1113 : (Cond.methodLink "NoonValleyLaw" 169 yX11_who) ∈ BW := bw (tb5 153 rfl) (by decide +kernel)
theorem m_1114 : (Cond.instanceMethod yX11_who) ∈ BW := bw (tb5 154 rfl) (by decide +kernel)
theorem m_1115 : (Cond.selects "NoonValley" yX11_who yX11_who) ∈ BW := bw (tb5 155 rfl) (by decide +kernel)
theorem vL_169 : LV RL 169 RX11 yX11_who cX11_who 6 (some .int) 2 := ⟨m_1113, m_1114, m_1115, m_1, m_1116, rfl, by decide, by decide, by decide +kernel⟩
theorem m_1774 : (Cond.methodLink "NoonValleyLaw" 172 yX12_who) ∈ BW := bw (tb8 94 rfl) (by decide +kernel)
theorem m_1775 : (Cond.instanceMethod yX12_who) ∈ BW := bw (tb8 95 rfl) (by decide +kernel)
theorem m_1776 : (Cond.selects "NoonValleyModel" yX12_who yX12_who) ∈ BW := bw (tb8 96 rfl) (by decide +kernel)
theorem vL_172 : LV RL 172 RX12 yX12_who cX12_who 5 (some .int) 2 := ⟨m_1774, m_1775, m_1776, m_12, m_1777, rfl, by decide, by decide, by decide +kernel⟩
theorem m_1140 : (Cond.methodLink "NoonValleyLaw" 173 yX11_fits) ∈ BW := bw (tb5 180 rfl) (by decide +kernel)
theorem m_1141 : (Cond.instanceMethod yX11_fits) ∈ BW := bw (tb5 181 rfl) (by decide +kernel)
theorem m_1142 : (Cond.selects "NoonValley" yX11_fits yX11_fits) ∈ BW := bw (tb5 182 rfl) (by decide +kernel)
theorem vL_173 : LV RL 173 RX11 yX11_fits cX11_fits 8 (some .int) 2 := ⟨m_1140, m_1141, m_1142, m_1, m_1143, rfl, by decide, by decide, by decide +kernel⟩
theorem m_1794 : (Cond.methodLink "NoonValleyLaw" 176 yX12_fits) ∈ BW := bw (tb8 114 rfl) (by decide +kernel)
theorem m_1795 : (Cond.instanceMethod yX12_fits) ∈ BW := bw (tb8 115 rfl) (by decide +kernel)
theorem m_1796 : (Cond.selects "NoonValleyModel" yX12_fits yX12_fits) ∈ BW := bw (tb8 116 rfl) (by decide +kernel)
theorem vL_176 : LV RL 176 RX12 yX12_fits cX12_fits 7 (some .int) 2 := ⟨m_1794, m_1795, m_1796, m_12, m_1797, rfl, by decide, by decide, by decide +kernel⟩
theorem m_1149 : (Cond.methodLink "NoonValleyLaw" 177 yX11_count) ∈ BW := bw (tb5 189 rfl) (by decide +kernel)
theorem m_1150 : (Cond.instanceMethod yX11_count) ∈ BW := bw (tb5 190 rfl) (by decide +kernel)
theorem m_1151 : (Cond.selects "NoonValley" yX11_count yX11_count) ∈ BW := bw (tb5 191 rfl) (by decide +kernel)
theorem vL_177 : LV RL 177 RX11 yX11_count cX11_count 2 (some .int) 1 := ⟨m_1149, m_1150, m_1151, m_1, m_1152, rfl, by decide, by decide, by decide +kernel⟩
theorem m_1798 : (Cond.methodLink "NoonValleyLaw" 180 yX12_count) ∈ BW := bw (tb8 118 rfl) (by decide +kernel)
theorem m_1799 : (Cond.instanceMethod yX12_count) ∈ BW := bw (tb8 119 rfl) (by decide +kernel)
theorem m_1800 : (Cond.selects "NoonValleyModel" yX12_count yX12_count) ∈ BW := bw (tb8 120 rfl) (by decide +kernel)
theorem vL_180 : LV RL 180 RX12 yX12_count cX12_count 4 (some .int) 1 := ⟨m_1798, m_1799, m_1800, m_12, m_1801, rfl, by decide, by decide, by decide +kernel⟩
set_option maxHeartbeats 4000000 in
set_option maxRecDepth 100000 in
theorem law_0 {p : Program} {e : Env} {s : State} {m : MethodId} {below : List Frame} {meth : Method} {c : Code} {l : Launch} {b L i C S x0 m0 o0 : Nat} {xs : Nat → Int32} {g : GG} {Γ : Nat → Nat} {H : Heap} {locs : List Loc} {q : RLT} {V : Nat → VV} {P : Nat → PP} {ls : Array Slot} {cells slots : Nat} (X : CTX p l m meth c cL_law 7 s #[Value.ref b] RL g (AL s)) (hr : meth.sig.returnType = ret) (hX : va_X b L xs s s.heap) (hbl : b < s.heap.size) (hL : L ≤ 3072) (hi : i + 6 ≤ L) (hS : LWS g x0 m0 o0 s Γ H locs) (hl : lv_has ls 7 (LO b x0 m0 o0 i)) (hc : cells + 13 ≤ C) (hs : slots + 380 ≤ S) (hcC : C ≤ 601024) (hSl : S ≤ 7293034) (hq : RLW q) (hC : R1c g x0 q H) (hD : RCV g x0 q.2.2.1 V H) (hM : R1m g m0 q H) (hN : RRV g m0 q.2.2.1 V H) (hE : RCP g x0 q.2.2.2 P H) (hO : RRP g m0 q.2.2.2 P H) (hY : RMM g m0 H) (hJ : RYK g x0 H) (hZ : PLX q.2.2.1 V q.2.2.2 P) (KK : LGP p l e s m b below meth c g x0 m0 o0 i C S) : W p l e room_1 s m #[Value.ref b] below meth c H locs cells slots (lw_Z below #[Value.ref b] s) (F0 m 204 ls []) := by
  have hx := X.1
  have hb := X.2.1
  refine lv_aload_n (pc := 204) hx hb dL_law_204 rfl (lv_at hl 1 rfl) ?_
  refine law_rd (pc := 205) X hX hbl hS hl 1 (by decide) (by decide) hi hL dL_law_205 dL_law_206 dL_law_208 dL_law_209 dL_law_210 ?_
  refine law_rd (pc := 211) X hX hbl hS hl 2 (by decide) (by decide) hi hL dL_law_211 dL_law_212 dL_law_214 dL_law_215 dL_law_216 ?_
  refine law_rd (pc := 217) X hX hbl hS hl 3 (by decide) (by decide) hi hL dL_law_217 dL_law_218 dL_law_220 dL_law_221 dL_law_222 ?_
  refine law_rd (pc := 223) X hX hbl hS hl 4 (by decide) (by decide) hi hL dL_law_223 dL_law_224 dL_law_226 dL_law_227 dL_law_228 ?_
  refine law_rd (pc := 229) X hX hbl hS hl 5 (by decide) (by decide) hi hL dL_law_229 dL_law_230 dL_law_232 dL_law_233 dL_law_234 ?_
  refine law_callE (pc := 235) (ci := 11) (As := [.int (xs (i + 1)), .int (xs (i + 2)), .int (xs (i + 3)), .int (xs (i + 4)), .int (xs (i + 5))]) (rs := []) X hS (E11_feed hq.1 hS.1.2.1 hS.2.1.1 (xs (i + 1)) (xs (i + 2)) (xs (i + 3)) (xs (i + 4)) (xs (i + 5))) vL_19 rfl hS.2.1.1 (by decide) rfl hC rfl hl.1 rfl (Nat.le_of_ble_eq_true rfl) ⟨Nat.le_of_ble_eq_true rfl, Nat.le_of_ble_eq_true rfl⟩ ⟨by omega, by omega⟩ dL_law_235 rfl rfl (fun x9 H locs hp hun hS9 => ?_)
  obtain ⟨hx9, hN9⟩ := hp
  obtain rfl := Value.int.inj hx9
  have hM := RR1.keep hM hS.1.1 hS.2.1.2.1 hun rfl
  have hD := RCV.keep hD hq.2.1 hS.1.1 hS9.1.1 hS.2.1.1 hun rfl
  have hN := RRV.keep hN hS.1.1 hS.2.1.2.1 hun rfl rfl
  have hE := RCP.keep hE hq.2.2 hS.1.1 hS9.1.1 hS.2.1.1 hun rfl
  have hO := RRP.keep hO hS.1.1 hS.2.1.2.1 hun rfl rfl
  have hY := RMM.keep hY hS.2.1.2.1 hun rfl
  have hJ := RYK.keep hJ hS.1.1 hS.2.1.1 hun rfl
  have hC := hN9
  have hS := hS9
  refine lv_pop (pc := 238) hx hb dL_law_238 rfl ?_
  refine lv_aload_n (pc := 239) hx hb dL_law_239 rfl (lv_at hl 2 rfl) ?_
  refine law_rd (pc := 240) X hX hbl hS hl 1 (by decide) (by decide) hi hL dL_law_240 dL_law_241 dL_law_243 dL_law_244 dL_law_245 ?_
  refine law_rd (pc := 246) X hX hbl hS hl 2 (by decide) (by decide) hi hL dL_law_246 dL_law_247 dL_law_249 dL_law_250 dL_law_251 ?_
  refine law_rd (pc := 252) X hX hbl hS hl 3 (by decide) (by decide) hi hL dL_law_252 dL_law_253 dL_law_255 dL_law_256 dL_law_257 ?_
  refine law_rd (pc := 258) X hX hbl hS hl 4 (by decide) (by decide) hi hL dL_law_258 dL_law_259 dL_law_261 dL_law_262 dL_law_263 ?_
  refine law_rd (pc := 264) X hX hbl hS hl 5 (by decide) (by decide) hi hL dL_law_264 dL_law_265 dL_law_267 dL_law_268 dL_law_269 ?_
  refine law_callE (pc := 270) (ci := 12) (As := [.int (xs (i + 1)), .int (xs (i + 2)), .int (xs (i + 3)), .int (xs (i + 4)), .int (xs (i + 5))]) (rs := []) X hS (E12_feed hq.1 hS.1.2.1 hS.2.1.2.1 (xs (i + 1)) (xs (i + 2)) (xs (i + 3)) (xs (i + 4)) (xs (i + 5))) vL_23 rfl hS.2.1.2.1 (by decide) rfl hM rfl hl.1 rfl (Nat.le_of_ble_eq_true rfl) ⟨Nat.le_of_ble_eq_true rfl, Nat.le_of_ble_eq_true rfl⟩ ⟨by omega, by omega⟩ dL_law_270 rfl rfl (fun x9 H locs hp hun hS9 => ?_)
  obtain ⟨hx9, hN9⟩ := hp
  obtain rfl := Value.int.inj hx9
  have hC := RC1.keep hC hS.1.1 hS.2.1.1 hun rfl
  have hD := RCV.keep hD hq.2.1 hS.1.1 hS9.1.1 hS.2.1.1 hun rfl
  have hN := RRV.keep hN hS.1.1 hS.2.1.2.1 hun rfl rfl
  have hE := RCP.keep hE hq.2.2 hS.1.1 hS9.1.1 hS.2.1.1 hun rfl
  have hO := RRP.keep hO hS.1.1 hS.2.1.2.1 hun rfl rfl
  have hY := RMM.keep hY hS.2.1.2.1 hun rfl
  have hJ := RYK.keep hJ hS.1.1 hS.2.1.1 hun rfl
  have hM := hN9
  have hS := hS9
  refine lv_pop (pc := 273) hx hb dL_law_273 rfl ?_
  refine lv_goto (tgt := 1836) (pc := 274) hx hb dL_law_274 rfl ?_
  exact KK _ _ _ _ _ _ (fdQ q (xs (i + 1)) (xs (i + 2)) (xs (i + 3)) (xs (i + 4)) (xs (i + 5))) _ _ (by omega) (by omega) hS (fdQ_w hq) hC hD hE hM hN hO hY hJ hZ (lv_sub hl [0, 1, 2, 3, 4] rfl)

set_option maxHeartbeats 4000000 in
set_option maxRecDepth 100000 in
theorem law_1 {p : Program} {e : Env} {s : State} {m : MethodId} {below : List Frame} {meth : Method} {c : Code} {l : Launch} {b L i C S x0 m0 o0 : Nat} {xs : Nat → Int32} {g : GG} {Γ : Nat → Nat} {H : Heap} {locs : List Loc} {q : RLT} {V : Nat → VV} {P : Nat → PP} {ls : Array Slot} {cells slots : Nat} (X : CTX p l m meth c cL_law 7 s #[Value.ref b] RL g (AL s)) (hr : meth.sig.returnType = ret) (hX : va_X b L xs s s.heap) (hbl : b < s.heap.size) (hL : L ≤ 3072) (hi : i + 6 ≤ L) (hS : LWS g x0 m0 o0 s Γ H locs) (hl : lv_has ls 7 (LO b x0 m0 o0 i)) (hc : cells + 13 ≤ C) (hs : slots + 380 ≤ S) (hcC : C ≤ 601024) (hSl : S ≤ 7293034) (hq : RLW q) (hC : R1c g x0 q H) (hD : RCV g x0 q.2.2.1 V H) (hM : R1m g m0 q H) (hN : RRV g m0 q.2.2.1 V H) (hE : RCP g x0 q.2.2.2 P H) (hO : RRP g m0 q.2.2.2 P H) (hY : RMM g m0 H) (hJ : RYK g x0 H) (hZ : PLX q.2.2.1 V q.2.2.2 P) (KK : LGP p l e s m b below meth c g x0 m0 o0 i C S) : W p l e room_1 s m #[Value.ref b] below meth c H locs cells slots (lw_Z below #[Value.ref b] s) (F0 m 277 ls []) := by
  have hx := X.1
  have hb := X.2.1
  refine lv_aload_n (pc := 277) hx hb dL_law_277 rfl (lv_at hl 1 rfl) ?_
  refine law_rd (pc := 278) X hX hbl hS hl 1 (by decide) (by decide) hi hL dL_law_278 dL_law_279 dL_law_281 dL_law_282 dL_law_283 ?_
  refine law_callE (pc := 284) (ci := 11) (As := [.int (xs (i + 1))]) (rs := []) X hS (E11_end hq.1 hS.1.2.1 hS.2.1.1 (xs (i + 1))) vL_24 rfl hS.2.1.1 (by decide) rfl hC rfl hl.1 rfl (Nat.le_of_ble_eq_true rfl) ⟨Nat.le_of_ble_eq_true rfl, Nat.le_of_ble_eq_true rfl⟩ ⟨by omega, by omega⟩ dL_law_284 rfl rfl (fun x9 H locs hp hun hS9 => ?_)
  obtain ⟨hx9, hN9⟩ := hp
  obtain rfl := Value.int.inj hx9
  have hM := RR1.keep hM hS.1.1 hS.2.1.2.1 hun rfl
  have hD := RCV.keep hD hq.2.1 hS.1.1 hS9.1.1 hS.2.1.1 hun rfl
  have hN := RRV.keep hN hS.1.1 hS.2.1.2.1 hun rfl rfl
  have hE := RCP.keep hE hq.2.2 hS.1.1 hS9.1.1 hS.2.1.1 hun rfl
  have hO := RRP.keep hO hS.1.1 hS.2.1.2.1 hun rfl rfl
  have hY := RMM.keep hY hS.2.1.2.1 hun rfl
  have hJ := RYK.keep hJ hS.1.1 hS.2.1.1 hun rfl
  have hC := hN9
  have hS := hS9
  refine lv_pop (pc := 287) hx hb dL_law_287 rfl ?_
  refine lv_aload_n (pc := 288) hx hb dL_law_288 rfl (lv_at hl 2 rfl) ?_
  refine law_rd (pc := 289) X hX hbl hS hl 1 (by decide) (by decide) hi hL dL_law_289 dL_law_290 dL_law_292 dL_law_293 dL_law_294 ?_
  refine law_callE (pc := 295) (ci := 12) (As := [.int (xs (i + 1))]) (rs := []) X hS (E12_end hq.1 hS.1.2.1 hS.2.1.2.1 (xs (i + 1))) vL_28 rfl hS.2.1.2.1 (by decide) rfl hM rfl hl.1 rfl (Nat.le_of_ble_eq_true rfl) ⟨Nat.le_of_ble_eq_true rfl, Nat.le_of_ble_eq_true rfl⟩ ⟨by omega, by omega⟩ dL_law_295 rfl rfl (fun x9 H locs hp hun hS9 => ?_)
  obtain ⟨hx9, hN9⟩ := hp
  obtain rfl := Value.int.inj hx9
  have hC := RC1.keep hC hS.1.1 hS.2.1.1 hun rfl
  have hD := RCV.keep hD hq.2.1 hS.1.1 hS9.1.1 hS.2.1.1 hun rfl
  have hN := RRV.keep hN hS.1.1 hS.2.1.2.1 hun rfl rfl
  have hE := RCP.keep hE hq.2.2 hS.1.1 hS9.1.1 hS.2.1.1 hun rfl
  have hO := RRP.keep hO hS.1.1 hS.2.1.2.1 hun rfl rfl
  have hY := RMM.keep hY hS.2.1.2.1 hun rfl
  have hJ := RYK.keep hJ hS.1.1 hS.2.1.1 hun rfl
  have hM := hN9
  have hS := hS9
  refine lv_pop (pc := 298) hx hb dL_law_298 rfl ?_
  refine lv_goto (tgt := 1836) (pc := 299) hx hb dL_law_299 rfl ?_
  exact KK _ _ _ _ _ _ (enQ q (xs (i + 1))) _ _ (by omega) (by omega) hS (enQ_w hq) hC hD hE hM hN hO hY hJ hZ (lv_sub hl [0, 1, 2, 3, 4] rfl)

set_option maxHeartbeats 4000000 in
set_option maxRecDepth 100000 in
theorem law_2 {p : Program} {e : Env} {s : State} {m : MethodId} {below : List Frame} {meth : Method} {c : Code} {l : Launch} {b L i C S x0 m0 o0 : Nat} {xs : Nat → Int32} {g : GG} {Γ : Nat → Nat} {H : Heap} {locs : List Loc} {q : RLT} {V : Nat → VV} {P : Nat → PP} {ls : Array Slot} {cells slots : Nat} (X : CTX p l m meth c cL_law 7 s #[Value.ref b] RL g (AL s)) (hr : meth.sig.returnType = ret) (hX : va_X b L xs s s.heap) (hbl : b < s.heap.size) (hL : L ≤ 3072) (hi : i + 6 ≤ L) (hS : LWS g x0 m0 o0 s Γ H locs) (hl : lv_has ls 7 (LO b x0 m0 o0 i)) (hc : cells + 13 ≤ C) (hs : slots + 380 ≤ S) (hcC : C ≤ 601024) (hSl : S ≤ 7293034) (hq : RLW q) (hC : R1c g x0 q H) (hD : RCV g x0 q.2.2.1 V H) (hM : R1m g m0 q H) (hN : RRV g m0 q.2.2.1 V H) (hE : RCP g x0 q.2.2.2 P H) (hO : RRP g m0 q.2.2.2 P H) (hY : RMM g m0 H) (hJ : RYK g x0 H) (hZ : PLX q.2.2.1 V q.2.2.2 P) (KK : LGP p l e s m b below meth c g x0 m0 o0 i C S) : W p l e room_1 s m #[Value.ref b] below meth c H locs cells slots (lw_Z below #[Value.ref b] s) (F0 m 302 ls []) := by
  have hx := X.1
  have hb := X.2.1
  refine lv_aload_n (pc := 302) hx hb dL_law_302 rfl (lv_at hl 1 rfl) ?_
  refine law_callU (pc := 303) (ci := 11) (As := []) (rs := []) X hS (SX11_fault_0 l g) vL_29 rfl hS.2.1.1 (by decide) rfl ⟨av_ref hS.2.1.1 (by decide), trivial⟩ rfl rfl hl.1 rfl (Nat.le_of_ble_eq_true rfl) ⟨Nat.le_of_ble_eq_true rfl, Nat.le_of_ble_eq_true rfl⟩ ⟨by omega, by omega⟩ dL_law_303 rfl rfl (fun x9 H locs hun hS9 => ?_)
  have hC := RC1.keep hC hS.1.1 hS.2.1.1 hun rfl
  have hM := RR1.keep hM hS.1.1 hS.2.1.2.1 hun rfl
  have hD := RCV.keep hD hq.2.1 hS.1.1 hS9.1.1 hS.2.1.1 hun rfl
  have hN := RRV.keep hN hS.1.1 hS.2.1.2.1 hun rfl rfl
  have hE := RCP.keep hE hq.2.2 hS.1.1 hS9.1.1 hS.2.1.1 hun rfl
  have hO := RRP.keep hO hS.1.1 hS.2.1.2.1 hun rfl rfl
  have hY := RMM.keep hY hS.2.1.2.1 hun rfl
  have hJ := RYK.keep hJ hS.1.1 hS.2.1.1 hun rfl
  have hS := hS9
  refine lv_pop (pc := 306) hx hb dL_law_306 rfl ?_
  refine lv_aload_n (pc := 307) hx hb dL_law_307 rfl (lv_at hl 2 rfl) ?_
  refine law_callE (pc := 308) (ci := 12) (As := []) (rs := []) X hS (E12_faultV hq.1 hS.1.2.1 hq.2.1 hS.2.1.2.1) vL_33 rfl hS.2.1.2.1 (by decide) rfl ⟨hM, hN⟩ rfl hl.1 rfl (Nat.le_of_ble_eq_true rfl) ⟨Nat.le_of_ble_eq_true rfl, Nat.le_of_ble_eq_true rfl⟩ ⟨by omega, by omega⟩ dL_law_308 rfl rfl (fun x9 H locs hp hun hS9 => ?_)
  obtain ⟨hx9, hN9⟩ := hp
  obtain rfl := Value.int.inj hx9
  have hC := RC1.keep hC hS.1.1 hS.2.1.1 hun rfl
  have hM := RR1.keep hM hS.1.1 hS.2.1.2.1 hun rfl
  have hD := RCV.keep hD hq.2.1 hS.1.1 hS9.1.1 hS.2.1.1 hun rfl
  have hE := RCP.keep hE hq.2.2 hS.1.1 hS9.1.1 hS.2.1.1 hun rfl
  have hO := RRP.keep hO hS.1.1 hS.2.1.2.1 hun rfl rfl
  have hY := RMM.keep hY hS.2.1.2.1 hun rfl
  have hJ := RYK.keep hJ hS.1.1 hS.2.1.1 hun rfl
  have hN := hN9
  have hS := hS9
  refine lv_pop (pc := 311) hx hb dL_law_311 rfl ?_
  refine lv_goto (tgt := 1836) (pc := 312) hx hb dL_law_312 rfl ?_
  exact KK _ _ _ _ _ _ q _ _ (by omega) (by omega) hS hq hC hD hE hM hN hO hY hJ hZ (lv_sub hl [0, 1, 2, 3, 4] rfl)

set_option maxHeartbeats 4000000 in
set_option maxRecDepth 100000 in
theorem law_3 {p : Program} {e : Env} {s : State} {m : MethodId} {below : List Frame} {meth : Method} {c : Code} {l : Launch} {b L i C S x0 m0 o0 : Nat} {xs : Nat → Int32} {g : GG} {Γ : Nat → Nat} {H : Heap} {locs : List Loc} {q : RLT} {V : Nat → VV} {P : Nat → PP} {ls : Array Slot} {cells slots : Nat} (X : CTX p l m meth c cL_law 7 s #[Value.ref b] RL g (AL s)) (hr : meth.sig.returnType = ret) (hX : va_X b L xs s s.heap) (hbl : b < s.heap.size) (hL : L ≤ 3072) (hi : i + 6 ≤ L) (hS : LWS g x0 m0 o0 s Γ H locs) (hl : lv_has ls 7 (LO b x0 m0 o0 i)) (hc : cells + 13 ≤ C) (hs : slots + 380 ≤ S) (hcC : C ≤ 601024) (hSl : S ≤ 7293034) (hq : RLW q) (hC : R1c g x0 q H) (hD : RCV g x0 q.2.2.1 V H) (hM : R1m g m0 q H) (hN : RRV g m0 q.2.2.1 V H) (hE : RCP g x0 q.2.2.2 P H) (hO : RRP g m0 q.2.2.2 P H) (hY : RMM g m0 H) (hJ : RYK g x0 H) (hZ : PLX q.2.2.1 V q.2.2.2 P) (KK : LGP p l e s m b below meth c g x0 m0 o0 i C S) : W p l e room_1 s m #[Value.ref b] below meth c H locs cells slots (lw_Z below #[Value.ref b] s) (F0 m 315 ls []) := by
  have hx := X.1
  have hb := X.2.1
  refine lv_aload_n (pc := 315) hx hb dL_law_315 rfl (lv_at hl 1 rfl) ?_
  refine law_gcallE (pc := 316) (ci := 11) (As := []) (rs := []) X hS (EG.and (E11_valley (m0 := m0) hq.1 hS.1.2.1 hq.2.1 hS.2.1.1) (EG.and (E11_valleyV (m0 := m0) (V := V) (np := q.2.2.2) hq.1 hS.1.2.1 hq.2.1 hS.2.1.1) (EG.and (E11_valleyP (m0 := m0) (np := q.2.2.2) hq.1 hS.1.2.1 hq.2.1 hq.2.2 hZ.1 hS.2.1.1) (E11_valleyY (m0 := m0) (np := q.2.2.2) hq.1 hS.1.2.1 hq.2.1 hq.2.2 hZ.1 hS.2.1.1)))) vL_34 rfl hS.2.1.1 (by decide) rfl ⟨hC, ⟨hC, hD⟩, ⟨hC, hD, hE⟩, hC, hD, hE, hJ⟩ rfl hl.1 rfl (Nat.le_of_ble_eq_true rfl) ⟨Nat.le_of_ble_eq_true rfl, Nat.le_of_ble_eq_true rfl⟩ ⟨Nat.le_trans (show cells + 13 ≤ C by omega) hcC, Nat.le_trans (show slots + 380 ≤ S by omega) hSl⟩ dL_law_316 (fun x9 Γ1 H locs hp hS9 => ?_)
  obtain ⟨⟨hp1, hp2⟩, ⟨⟨V9, hV9, hD9⟩, hO9⟩, ⟨hE9, hO8⟩, hJ9⟩ := hp
  obtain ⟨hx9, hN9⟩ := vlQ_c hp1
  obtain rfl := Value.int.inj hx9
  have hM := RR1.same hM hS.1.1 hS.2.1.2.1 hp2
  have hN := RRV.same hN hS.1.1 hS.2.1.2.1 hO9
  have hO := RRP.same hO hS.1.1 hS.2.1.2.1 hO8
  have hY := RMM.same hY (hO8 m0 (Or.inl hS.2.1.2.1))
  have hC := hN9
  have hD := hD9
  have hE := hE9
  have hJ := hJ9
  have hS := hS9
  refine lv_pop (pc := 319) hx hb dL_law_319 rfl ?_
  refine lv_aload_n (pc := 320) hx hb dL_law_320 rfl (lv_at hl 2 rfl) ?_
  refine law_callE (pc := 321) (ci := 12) (As := []) (rs := []) X hS (EX.and (E12_valley hq.1 hS.1.2.1 hq.2.1 hS.2.1.2.1) (E12_valleyV (np := q.2.2.2) hq.1 hS.1.2.1 hq.2.1 hS.2.1.2.1 hV9)) vL_37 rfl hS.2.1.2.1 (by decide) rfl ⟨hM, hM, hN⟩ rfl hl.1 rfl (Nat.le_of_ble_eq_true rfl) ⟨Nat.le_of_ble_eq_true rfl, Nat.le_of_ble_eq_true rfl⟩ ⟨by omega, by omega⟩ dL_law_321 rfl rfl (fun x9 H locs hp hun hS9 => ?_)
  obtain ⟨hp1, hN8⟩ := hp
  obtain ⟨hx9, hN9⟩ := vlQ_m hp1
  obtain rfl := Value.int.inj hx9
  have hC := RC1.keep hC hS.1.1 hS.2.1.1 hun rfl
  have hD := RCV.keep hD (vlM_le hq) hS.1.1 hS9.1.1 hS.2.1.1 hun rfl
  have hE := RCP.keep hE hq.2.2 hS.1.1 hS9.1.1 hS.2.1.1 hun rfl
  have hO := RRP.keep hO hS.1.1 hS.2.1.2.1 hun rfl rfl
  have hY := RMM.keep hY hS.2.1.2.1 hun rfl
  have hJ := RYK.keep hJ hS.1.1 hS.2.1.1 hun rfl
  have hM := hN9
  have hN := hN8
  have hS := hS9
  refine lv_pop (pc := 324) hx hb dL_law_324 rfl ?_
  refine lv_goto (tgt := 1836) (pc := 325) hx hb dL_law_325 rfl ?_
  exact KK _ _ _ _ _ _ (vlQ q) V9 P (by omega) (by omega) hS (vlQ_w hq) hC (by rw [vlQ_nv]; exact hD) (by rw [vlQ_np]; exact hE) hM (by rw [vlQ_nv]; exact hN) (by rw [vlQ_np]; exact hO) hY hJ (by rw [vlQ_nv, vlQ_np]; exact plx_vlr hZ hV9) (lv_sub hl [0, 1, 2, 3, 4] rfl)

set_option maxHeartbeats 4000000 in
set_option maxRecDepth 100000 in
theorem law_4 {p : Program} {e : Env} {s : State} {m : MethodId} {below : List Frame} {meth : Method} {c : Code} {l : Launch} {b L i C S x0 m0 o0 : Nat} {xs : Nat → Int32} {g : GG} {Γ : Nat → Nat} {H : Heap} {locs : List Loc} {q : RLT} {V : Nat → VV} {P : Nat → PP} {ls : Array Slot} {cells slots : Nat} (X : CTX p l m meth c cL_law 7 s #[Value.ref b] RL g (AL s)) (hr : meth.sig.returnType = ret) (hX : va_X b L xs s s.heap) (hbl : b < s.heap.size) (hL : L ≤ 3072) (hi : i + 6 ≤ L) (hS : LWS g x0 m0 o0 s Γ H locs) (hl : lv_has ls 7 (LO b x0 m0 o0 i)) (hc : cells + 13 ≤ C) (hs : slots + 380 ≤ S) (hcC : C ≤ 601024) (hSl : S ≤ 7293034) (hq : RLW q) (hC : R1c g x0 q H) (hD : RCV g x0 q.2.2.1 V H) (hM : R1m g m0 q H) (hN : RRV g m0 q.2.2.1 V H) (hE : RCP g x0 q.2.2.2 P H) (hO : RRP g m0 q.2.2.2 P H) (hY : RMM g m0 H) (hJ : RYK g x0 H) (hZ : PLX q.2.2.1 V q.2.2.2 P) (KK : LGP p l e s m b below meth c g x0 m0 o0 i C S) : W p l e room_1 s m #[Value.ref b] below meth c H locs cells slots (lw_Z below #[Value.ref b] s) (F0 m 328 ls []) := by
  have hx := X.1
  have hb := X.2.1
  refine lv_aload_n (pc := 328) hx hb dL_law_328 rfl (lv_at hl 1 rfl) ?_
  refine law_rd (pc := 329) X hX hbl hS hl 1 (by decide) (by decide) hi hL dL_law_329 dL_law_330 dL_law_332 dL_law_333 dL_law_334 ?_
  refine law_rd (pc := 335) X hX hbl hS hl 2 (by decide) (by decide) hi hL dL_law_335 dL_law_336 dL_law_338 dL_law_339 dL_law_340 ?_
  refine law_callU (pc := 341) (ci := 11) (As := [.int (xs (i + 1)), .int (xs (i + 2))]) (rs := []) X hS (SX11_told_0 l g) vL_38 rfl hS.2.1.1 (by decide) rfl ⟨av_ref hS.2.1.1 (by decide), avi_top _, avi_top _, trivial⟩ rfl rfl hl.1 rfl (Nat.le_of_ble_eq_true rfl) ⟨Nat.le_of_ble_eq_true rfl, Nat.le_of_ble_eq_true rfl⟩ ⟨by omega, by omega⟩ dL_law_341 rfl rfl (fun x9 H locs hun hS9 => ?_)
  have hC := RC1.keep hC hS.1.1 hS.2.1.1 hun rfl
  have hM := RR1.keep hM hS.1.1 hS.2.1.2.1 hun rfl
  have hD := RCV.keep hD hq.2.1 hS.1.1 hS9.1.1 hS.2.1.1 hun rfl
  have hN := RRV.keep hN hS.1.1 hS.2.1.2.1 hun rfl rfl
  have hE := RCP.keep hE hq.2.2 hS.1.1 hS9.1.1 hS.2.1.1 hun rfl
  have hO := RRP.keep hO hS.1.1 hS.2.1.2.1 hun rfl rfl
  have hY := RMM.keep hY hS.2.1.2.1 hun rfl
  have hJ := RYK.keep hJ hS.1.1 hS.2.1.1 hun rfl
  have hS := hS9
  refine lv_pop (pc := 344) hx hb dL_law_344 rfl ?_
  refine lv_aload_n (pc := 345) hx hb dL_law_345 rfl (lv_at hl 2 rfl) ?_
  refine law_rd (pc := 346) X hX hbl hS hl 1 (by decide) (by decide) hi hL dL_law_346 dL_law_347 dL_law_349 dL_law_350 dL_law_351 ?_
  refine law_rd (pc := 352) X hX hbl hS hl 2 (by decide) (by decide) hi hL dL_law_352 dL_law_353 dL_law_355 dL_law_356 dL_law_357 ?_
  refine law_callU (pc := 358) (ci := 12) (As := [.int (xs (i + 1)), .int (xs (i + 2))]) (rs := []) X hS (SX12_told_0 l g) vL_42 rfl hS.2.1.2.1 (by decide) rfl ⟨av_ref hS.2.1.2.1 (by decide), avi_top _, avi_top _, trivial⟩ rfl rfl hl.1 rfl (Nat.le_of_ble_eq_true rfl) ⟨Nat.le_of_ble_eq_true rfl, Nat.le_of_ble_eq_true rfl⟩ ⟨by omega, by omega⟩ dL_law_358 rfl rfl (fun x9 H locs hun hS9 => ?_)
  have hC := RC1.keep hC hS.1.1 hS.2.1.1 hun rfl
  have hM := RR1.keep hM hS.1.1 hS.2.1.2.1 hun rfl
  have hD := RCV.keep hD hq.2.1 hS.1.1 hS9.1.1 hS.2.1.1 hun rfl
  have hN := RRV.keep hN hS.1.1 hS.2.1.2.1 hun rfl rfl
  have hE := RCP.keep hE hq.2.2 hS.1.1 hS9.1.1 hS.2.1.1 hun rfl
  have hO := RRP.keep hO hS.1.1 hS.2.1.2.1 hun rfl rfl
  have hY := RMM.keep hY hS.2.1.2.1 hun rfl
  have hJ := RYK.keep hJ hS.1.1 hS.2.1.1 hun rfl
  have hS := hS9
  refine lv_pop (pc := 361) hx hb dL_law_361 rfl ?_
  refine lv_goto (tgt := 1836) (pc := 362) hx hb dL_law_362 rfl ?_
  exact KK _ _ _ _ _ _ q _ _ (by omega) (by omega) hS hq hC hD hE hM hN hO hY hJ hZ (lv_sub hl [0, 1, 2, 3, 4] rfl)

set_option maxHeartbeats 4000000 in
set_option maxRecDepth 100000 in
theorem law_5 {p : Program} {e : Env} {s : State} {m : MethodId} {below : List Frame} {meth : Method} {c : Code} {l : Launch} {b L i C S x0 m0 o0 : Nat} {xs : Nat → Int32} {g : GG} {Γ : Nat → Nat} {H : Heap} {locs : List Loc} {q : RLT} {V : Nat → VV} {P : Nat → PP} {ls : Array Slot} {cells slots : Nat} (X : CTX p l m meth c cL_law 7 s #[Value.ref b] RL g (AL s)) (hr : meth.sig.returnType = ret) (hX : va_X b L xs s s.heap) (hbl : b < s.heap.size) (hL : L ≤ 3072) (hi : i + 6 ≤ L) (hS : LWS g x0 m0 o0 s Γ H locs) (hl : lv_has ls 7 (LO b x0 m0 o0 i)) (hc : cells + 13 ≤ C) (hs : slots + 380 ≤ S) (hcC : C ≤ 601024) (hSl : S ≤ 7293034) (hq : RLW q) (hC : R1c g x0 q H) (hD : RCV g x0 q.2.2.1 V H) (hM : R1m g m0 q H) (hN : RRV g m0 q.2.2.1 V H) (hE : RCP g x0 q.2.2.2 P H) (hO : RRP g m0 q.2.2.2 P H) (hY : RMM g m0 H) (hJ : RYK g x0 H) (hZ : PLX q.2.2.1 V q.2.2.2 P) (KK : LGP p l e s m b below meth c g x0 m0 o0 i C S) (hfl : l.stackTraces = false) (hTh : THR (AL s) s s.heap) : W p l e room_1 s m #[Value.ref b] below meth c H locs cells slots (lw_Z below #[Value.ref b] s) (F0 m 365 ls []) := by
  have hx := X.1
  have hb := X.2.1
  refine lv_aload_n (pc := 365) hx hb dL_law_365 rfl (lv_at hl 1 rfl) ?_
  refine law_rd (pc := 366) X hX hbl hS hl 1 (by decide) (by decide) hi hL dL_law_366 dL_law_367 dL_law_369 dL_law_370 dL_law_371 ?_
  refine law_rd (pc := 372) X hX hbl hS hl 2 (by decide) (by decide) hi hL dL_law_372 dL_law_373 dL_law_375 dL_law_376 dL_law_377 ?_
  refine law_rd (pc := 378) X hX hbl hS hl 3 (by decide) (by decide) hi hL dL_law_378 dL_law_379 dL_law_381 dL_law_382 dL_law_383 ?_
  refine lv_aload_n (pc := 384) hx hb dL_law_384 rfl (lv_at hl 3 rfl) ?_
  refine law_lretU (pc := 385) (a := [.ref x0, .int (xs (i + 1)), .int (xs (i + 2)), .int (xs (i + 3)), .ref o0].toArray) (fun _ _ _ _ h => h) (vx_runSW (As := [.ref x0, .int (xs (i + 1)), .int (xs (i + 2)), .int (xs (i + 3)), .ref o0]) (rest := []) (hh := [(0, 12, 15, 13)]) ⟨X.1, X.2.1, X.2.2.1, X.2.2.2.1, X.2.2.2.2.1⟩ (GL_lineU l hfl g x0 m0 o0 (xs (i + 1)) (xs (i + 2)) (xs (i + 3)) Γ H H.size hS.1.2.1 hS.2.2.1) (vx_cwSW 5 X.2.2.2.2.1 (good_in fun w hw => by
      rcases List.mem_append.mp hw with hw | hw
      · simp only [List.mem_cons, List.not_mem_nil, or_false] at hw
        rcases hw with rfl | rfl | rfl
        · exact m_1153
        · exact m_1154
        · exact m_0
      · rcases List.mem_cons.mp hw with rfl | hw
        · exact m_lline
        · exact hw) rfl rfl rfl ⟨by decide, by decide, by decide +kernel⟩ ⟨Nat.le_of_ble_eq_true rfl, Nat.le_of_ble_eq_true rfl⟩) ⟨OPREU.blind, fun U hU hW => ⟨rfl, law_opreU X hTh hS U hU hW⟩⟩ rfl rfl hl.1 rfl (lv_room (Nat.le_of_ble_eq_true rfl)) dL_law_385 ⟨Nat.le_trans (show cells + 1 ≤ C by omega) hcC, Nat.le_trans (show slots + 6 ≤ S by omega) hSl⟩) hS (fun r9 H locs hun hS9 => ?_)
  have hC := RC1.keep hC hS.1.1 hS.2.1.1 hun rfl
  have hM := RR1.keep hM hS.1.1 hS.2.1.2.1 hun rfl
  have hD := RCV.keep hD hq.2.1 hS.1.1 hS9.1.1 hS.2.1.1 hun rfl
  have hN := RRV.keep hN hS.1.1 hS.2.1.2.1 hun rfl rfl
  have hE := RCP.keep hE hq.2.2 hS.1.1 hS9.1.1 hS.2.1.1 hun rfl
  have hO := RRP.keep hO hS.1.1 hS.2.1.2.1 hun rfl rfl
  have hY := RMM.keep hY hS.2.1.2.1 hun rfl
  have hJ := RYK.keep hJ hS.1.1 hS.2.1.1 hun rfl
  have hS := hS9
  refine lv_istore (lv' := [(5, .int r9), (0, .ref b), (1, .ref x0), (2, .ref m0), (3, .ref o0), (4, .int (nI i))]) (pc := 388) hx hb dL_law_388 hl (by decide) rfl (fun ls hl => ?_)
  refine lv_aload_n (pc := 390) hx hb dL_law_390 rfl (lv_at hl 3 rfl) ?_
  refine law_rd (pc := 391) X hX hbl hS (lv_sub hl [1, 2, 3, 4, 5] rfl) 1 (by decide) (by decide) hi hL dL_law_391 dL_law_392 dL_law_394 dL_law_395 dL_law_396 ?_
  refine law_rd (pc := 397) X hX hbl hS (lv_sub hl [1, 2, 3, 4, 5] rfl) 2 (by decide) (by decide) hi hL dL_law_397 dL_law_398 dL_law_400 dL_law_401 dL_law_402 ?_
  refine law_rd (pc := 403) X hX hbl hS (lv_sub hl [1, 2, 3, 4, 5] rfl) 3 (by decide) (by decide) hi hL dL_law_403 dL_law_404 dL_law_406 dL_law_407 dL_law_408 ?_
  refine f_callV (pc := 409) (ci := 12) (As := [.int (xs (i + 1)), .int (xs (i + 2)), .int (xs (i + 3))]) (rs := []) X hS.1 (SX12_line_0 l g) vL_48 rfl (by rw [hS.2.1.2.1]; decide) ((congrArg TS0.1 hS.2.1.2.1).trans rfl) ⟨av_ref hS.2.1.2.1 (by decide), avi_top _, avi_top _, avi_top _, trivial⟩ rfl rfl hl.1 rfl (Nat.le_of_ble_eq_true rfl) ⟨Nat.le_of_ble_eq_true rfl, Nat.le_of_ble_eq_true rfl⟩ ⟨Nat.le_trans (show cells + 1 ≤ C by omega) hcC, Nat.le_trans (show slots + 6 ≤ S by omega) hSl⟩ dL_law_409 (fun w9 H9 locs9 hro hF9 hz9 hk9 hun => ?_)
  obtain ⟨w8, rfl, hw8, -⟩ := RO_some rfl hro
  obtain ⟨r8, rfl, -⟩ := avi_int rfl hw8
  have hS9 := hS.keep hF9 hk9 hun rfl
  have hC := RC1.keep hC hS.1.1 hS.2.1.1 hun rfl
  have hM := RR1.keep hM hS.1.1 hS.2.1.2.1 hun rfl
  have hD := RCV.keep hD hq.2.1 hS.1.1 hS9.1.1 hS.2.1.1 hun rfl
  have hN := RRV.keep hN hS.1.1 hS.2.1.2.1 hun rfl rfl
  have hE := RCP.keep hE hq.2.2 hS.1.1 hS9.1.1 hS.2.1.1 hun rfl
  have hO := RRP.keep hO hS.1.1 hS.2.1.2.1 hun rfl rfl
  have hY := RMM.keep hY hS.2.1.2.1 hun rfl
  have hJ := RYK.keep hJ hS.1.1 hS.2.1.1 hun rfl
  have hS := hS9
  refine lv_istore (lv' := [(6, .int r8), (5, .int r9), (0, .ref b), (1, .ref x0), (2, .ref m0), (3, .ref o0), (4, .int (nI i))]) (pc := 412) hx hb dL_law_412 hl (by decide) rfl (fun ls hl => ?_)
  refine lv_goto (tgt := 1836) (pc := 414) hx hb dL_law_414 rfl ?_
  exact KK _ _ _ _ _ _ q _ _ (by omega) (by omega) hS hq hC hD hE hM hN hO hY hJ hZ (lv_sub hl [2, 3, 4, 5, 6] rfl)

set_option maxHeartbeats 4000000 in
set_option maxRecDepth 100000 in
theorem law_6 {p : Program} {e : Env} {s : State} {m : MethodId} {below : List Frame} {meth : Method} {c : Code} {l : Launch} {b L i C S x0 m0 o0 : Nat} {xs : Nat → Int32} {g : GG} {Γ : Nat → Nat} {H : Heap} {locs : List Loc} {q : RLT} {V : Nat → VV} {P : Nat → PP} {ls : Array Slot} {cells slots : Nat} (X : CTX p l m meth c cL_law 7 s #[Value.ref b] RL g (AL s)) (hr : meth.sig.returnType = ret) (hX : va_X b L xs s s.heap) (hbl : b < s.heap.size) (hL : L ≤ 3072) (hi : i + 6 ≤ L) (hS : LWS g x0 m0 o0 s Γ H locs) (hl : lv_has ls 7 (LO b x0 m0 o0 i)) (hc : cells + 13 ≤ C) (hs : slots + 380 ≤ S) (hcC : C ≤ 601024) (hSl : S ≤ 7293034) (hq : RLW q) (hC : R1c g x0 q H) (hD : RCV g x0 q.2.2.1 V H) (hM : R1m g m0 q H) (hN : RRV g m0 q.2.2.1 V H) (hE : RCP g x0 q.2.2.2 P H) (hO : RRP g m0 q.2.2.2 P H) (hY : RMM g m0 H) (hJ : RYK g x0 H) (hZ : PLX q.2.2.1 V q.2.2.2 P) (KK : LGP p l e s m b below meth c g x0 m0 o0 i C S) : W p l e room_1 s m #[Value.ref b] below meth c H locs cells slots (lw_Z below #[Value.ref b] s) (F0 m 417 ls []) := by
  have hx := X.1
  have hb := X.2.1
  refine lv_aload_n (pc := 417) hx hb dL_law_417 rfl (lv_at hl 1 rfl) ?_
  refine law_rd (pc := 418) X hX hbl hS hl 1 (by decide) (by decide) hi hL dL_law_418 dL_law_419 dL_law_421 dL_law_422 dL_law_423 ?_
  refine law_rd (pc := 424) X hX hbl hS hl 2 (by decide) (by decide) hi hL dL_law_424 dL_law_425 dL_law_427 dL_law_428 dL_law_429 ?_
  refine law_rd (pc := 430) X hX hbl hS hl 3 (by decide) (by decide) hi hL dL_law_430 dL_law_431 dL_law_433 dL_law_434 dL_law_435 ?_
  refine law_callE (pc := 436) (ci := 11) (As := [.int (xs (i + 1)), .int (xs (i + 2)), .int (xs (i + 3))]) (rs := []) X hS (E11_downV hS.1.2.1 hq.2.1 hS.2.1.1 (xs (i + 1)) (xs (i + 2)) (xs (i + 3))) vL_49 rfl hS.2.1.1 (by decide) rfl ⟨hC, hD⟩ rfl hl.1 rfl (Nat.le_of_ble_eq_true rfl) ⟨Nat.le_of_ble_eq_true rfl, Nat.le_of_ble_eq_true rfl⟩ ⟨by omega, by omega⟩ dL_law_436 rfl rfl (fun x9 H locs hp hun hS9 => ?_)
  obtain ⟨hx9, hN9⟩ := hp
  obtain rfl := Value.int.inj hx9
  have hC := RC1.keep hC hS.1.1 hS.2.1.1 hun rfl
  have hM := RR1.keep hM hS.1.1 hS.2.1.2.1 hun rfl
  have hN := RRV.keep hN hS.1.1 hS.2.1.2.1 hun rfl rfl
  have hE := RCP.keep hE hq.2.2 hS.1.1 hS9.1.1 hS.2.1.1 hun rfl
  have hO := RRP.keep hO hS.1.1 hS.2.1.2.1 hun rfl rfl
  have hY := RMM.keep hY hS.2.1.2.1 hun rfl
  have hJ := RYK.keep hJ hS.1.1 hS.2.1.1 hun rfl
  have hD := hN9
  have hS := hS9
  refine lv_pop (pc := 439) hx hb dL_law_439 rfl ?_
  refine lv_aload_n (pc := 440) hx hb dL_law_440 rfl (lv_at hl 2 rfl) ?_
  refine law_rd (pc := 441) X hX hbl hS hl 1 (by decide) (by decide) hi hL dL_law_441 dL_law_442 dL_law_444 dL_law_445 dL_law_446 ?_
  refine law_rd (pc := 447) X hX hbl hS hl 2 (by decide) (by decide) hi hL dL_law_447 dL_law_448 dL_law_450 dL_law_451 dL_law_452 ?_
  refine law_rd (pc := 453) X hX hbl hS hl 3 (by decide) (by decide) hi hL dL_law_453 dL_law_454 dL_law_456 dL_law_457 dL_law_458 ?_
  refine law_callE (pc := 459) (ci := 12) (As := [.int (xs (i + 1)), .int (xs (i + 2)), .int (xs (i + 3))]) (rs := []) X hS (E12_downV hS.1.2.1 hq.2.1 hS.2.1.2.1 (xs (i + 1)) (xs (i + 2)) (xs (i + 3))) vL_53 rfl hS.2.1.2.1 (by decide) rfl ⟨hM, hN⟩ rfl hl.1 rfl (Nat.le_of_ble_eq_true rfl) ⟨Nat.le_of_ble_eq_true rfl, Nat.le_of_ble_eq_true rfl⟩ ⟨by omega, by omega⟩ dL_law_459 rfl rfl (fun x9 H locs hp hun hS9 => ?_)
  obtain ⟨hx9, hN9⟩ := hp
  obtain rfl := Value.int.inj hx9
  have hC := RC1.keep hC hS.1.1 hS.2.1.1 hun rfl
  have hM := RR1.keep hM hS.1.1 hS.2.1.2.1 hun rfl
  have hD := RCV.keep hD hq.2.1 hS.1.1 hS9.1.1 hS.2.1.1 hun rfl
  have hE := RCP.keep hE hq.2.2 hS.1.1 hS9.1.1 hS.2.1.1 hun rfl
  have hO := RRP.keep hO hS.1.1 hS.2.1.2.1 hun rfl rfl
  have hY := RMM.keep hY hS.2.1.2.1 hun rfl
  have hJ := RYK.keep hJ hS.1.1 hS.2.1.1 hun rfl
  have hN := hN9
  have hS := hS9
  refine lv_pop (pc := 462) hx hb dL_law_462 rfl ?_
  refine lv_goto (tgt := 1836) (pc := 463) hx hb dL_law_463 rfl ?_
  exact KK _ _ _ _ _ _ q _ _ (by omega) (by omega) hS hq hC hD hE hM hN hO hY hJ (plx_vnew hZ (fun _ => rfl) (fun _ h => nl_down h)) (lv_sub hl [0, 1, 2, 3, 4] rfl)

set_option maxHeartbeats 4000000 in
set_option maxRecDepth 100000 in
theorem law_7 {p : Program} {e : Env} {s : State} {m : MethodId} {below : List Frame} {meth : Method} {c : Code} {l : Launch} {b L i C S x0 m0 o0 : Nat} {xs : Nat → Int32} {g : GG} {Γ : Nat → Nat} {H : Heap} {locs : List Loc} {q : RLT} {V : Nat → VV} {P : Nat → PP} {ls : Array Slot} {cells slots : Nat} (X : CTX p l m meth c cL_law 7 s #[Value.ref b] RL g (AL s)) (hr : meth.sig.returnType = ret) (hX : va_X b L xs s s.heap) (hbl : b < s.heap.size) (hL : L ≤ 3072) (hi : i + 6 ≤ L) (hS : LWS g x0 m0 o0 s Γ H locs) (hl : lv_has ls 7 (LO b x0 m0 o0 i)) (hc : cells + 13 ≤ C) (hs : slots + 380 ≤ S) (hcC : C ≤ 601024) (hSl : S ≤ 7293034) (hq : RLW q) (hC : R1c g x0 q H) (hD : RCV g x0 q.2.2.1 V H) (hM : R1m g m0 q H) (hN : RRV g m0 q.2.2.1 V H) (hE : RCP g x0 q.2.2.2 P H) (hO : RRP g m0 q.2.2.2 P H) (hY : RMM g m0 H) (hJ : RYK g x0 H) (hZ : PLX q.2.2.1 V q.2.2.2 P) (KK : LGP p l e s m b below meth c g x0 m0 o0 i C S) : W p l e room_1 s m #[Value.ref b] below meth c H locs cells slots (lw_Z below #[Value.ref b] s) (F0 m 466 ls []) := by
  have hx := X.1
  have hb := X.2.1
  refine lv_aload_n (pc := 466) hx hb dL_law_466 rfl (lv_at hl 1 rfl) ?_
  refine law_rd (pc := 467) X hX hbl hS hl 1 (by decide) (by decide) hi hL dL_law_467 dL_law_468 dL_law_470 dL_law_471 dL_law_472 ?_
  refine law_rd (pc := 473) X hX hbl hS hl 2 (by decide) (by decide) hi hL dL_law_473 dL_law_474 dL_law_476 dL_law_477 dL_law_478 ?_
  refine law_rd (pc := 479) X hX hbl hS hl 3 (by decide) (by decide) hi hL dL_law_479 dL_law_480 dL_law_482 dL_law_483 dL_law_484 ?_
  refine law_rd (pc := 485) X hX hbl hS hl 4 (by decide) (by decide) hi hL dL_law_485 dL_law_486 dL_law_488 dL_law_489 dL_law_490 ?_
  refine law_callU (pc := 491) (ci := 11) (As := [.int (xs (i + 1)), .int (xs (i + 2)), .int (xs (i + 3)), .int (xs (i + 4))]) (rs := []) X hS (SX11_may_0 l g) vL_54 rfl hS.2.1.1 (by decide) rfl ⟨av_ref hS.2.1.1 (by decide), avi_top _, avi_top _, avi_top _, avi_top _, trivial⟩ rfl rfl hl.1 rfl (Nat.le_of_ble_eq_true rfl) ⟨Nat.le_of_ble_eq_true rfl, Nat.le_of_ble_eq_true rfl⟩ ⟨by omega, by omega⟩ dL_law_491 rfl rfl (fun x9 H locs hun hS9 => ?_)
  have hC := RC1.keep hC hS.1.1 hS.2.1.1 hun rfl
  have hM := RR1.keep hM hS.1.1 hS.2.1.2.1 hun rfl
  have hD := RCV.keep hD hq.2.1 hS.1.1 hS9.1.1 hS.2.1.1 hun rfl
  have hN := RRV.keep hN hS.1.1 hS.2.1.2.1 hun rfl rfl
  have hE := RCP.keep hE hq.2.2 hS.1.1 hS9.1.1 hS.2.1.1 hun rfl
  have hO := RRP.keep hO hS.1.1 hS.2.1.2.1 hun rfl rfl
  have hY := RMM.keep hY hS.2.1.2.1 hun rfl
  have hJ := RYK.keep hJ hS.1.1 hS.2.1.1 hun rfl
  have hS := hS9
  refine lv_pop (pc := 494) hx hb dL_law_494 rfl ?_
  refine lv_aload_n (pc := 495) hx hb dL_law_495 rfl (lv_at hl 2 rfl) ?_
  refine law_rd (pc := 496) X hX hbl hS hl 1 (by decide) (by decide) hi hL dL_law_496 dL_law_497 dL_law_499 dL_law_500 dL_law_501 ?_
  refine law_rd (pc := 502) X hX hbl hS hl 2 (by decide) (by decide) hi hL dL_law_502 dL_law_503 dL_law_505 dL_law_506 dL_law_507 ?_
  refine law_rd (pc := 508) X hX hbl hS hl 3 (by decide) (by decide) hi hL dL_law_508 dL_law_509 dL_law_511 dL_law_512 dL_law_513 ?_
  refine law_rd (pc := 514) X hX hbl hS hl 4 (by decide) (by decide) hi hL dL_law_514 dL_law_515 dL_law_517 dL_law_518 dL_law_519 ?_
  refine law_callU (pc := 520) (ci := 12) (As := [.int (xs (i + 1)), .int (xs (i + 2)), .int (xs (i + 3)), .int (xs (i + 4))]) (rs := []) X hS (SX12_may_0 l g) vL_58 rfl hS.2.1.2.1 (by decide) rfl ⟨av_ref hS.2.1.2.1 (by decide), avi_top _, avi_top _, avi_top _, avi_top _, trivial⟩ rfl rfl hl.1 rfl (Nat.le_of_ble_eq_true rfl) ⟨Nat.le_of_ble_eq_true rfl, Nat.le_of_ble_eq_true rfl⟩ ⟨by omega, by omega⟩ dL_law_520 rfl rfl (fun x9 H locs hun hS9 => ?_)
  have hC := RC1.keep hC hS.1.1 hS.2.1.1 hun rfl
  have hM := RR1.keep hM hS.1.1 hS.2.1.2.1 hun rfl
  have hD := RCV.keep hD hq.2.1 hS.1.1 hS9.1.1 hS.2.1.1 hun rfl
  have hN := RRV.keep hN hS.1.1 hS.2.1.2.1 hun rfl rfl
  have hE := RCP.keep hE hq.2.2 hS.1.1 hS9.1.1 hS.2.1.1 hun rfl
  have hO := RRP.keep hO hS.1.1 hS.2.1.2.1 hun rfl rfl
  have hY := RMM.keep hY hS.2.1.2.1 hun rfl
  have hJ := RYK.keep hJ hS.1.1 hS.2.1.1 hun rfl
  have hS := hS9
  refine lv_pop (pc := 523) hx hb dL_law_523 rfl ?_
  refine lv_goto (tgt := 1836) (pc := 524) hx hb dL_law_524 rfl ?_
  exact KK _ _ _ _ _ _ q _ _ (by omega) (by omega) hS hq hC hD hE hM hN hO hY hJ hZ (lv_sub hl [0, 1, 2, 3, 4] rfl)

set_option maxHeartbeats 4000000 in
set_option maxRecDepth 100000 in
theorem law_8 {p : Program} {e : Env} {s : State} {m : MethodId} {below : List Frame} {meth : Method} {c : Code} {l : Launch} {b L i C S x0 m0 o0 : Nat} {xs : Nat → Int32} {g : GG} {Γ : Nat → Nat} {H : Heap} {locs : List Loc} {q : RLT} {V : Nat → VV} {P : Nat → PP} {ls : Array Slot} {cells slots : Nat} (X : CTX p l m meth c cL_law 7 s #[Value.ref b] RL g (AL s)) (hr : meth.sig.returnType = ret) (hX : va_X b L xs s s.heap) (hbl : b < s.heap.size) (hL : L ≤ 3072) (hi : i + 6 ≤ L) (hS : LWS g x0 m0 o0 s Γ H locs) (hl : lv_has ls 7 (LO b x0 m0 o0 i)) (hc : cells + 13 ≤ C) (hs : slots + 380 ≤ S) (hcC : C ≤ 601024) (hSl : S ≤ 7293034) (hq : RLW q) (hC : R1c g x0 q H) (hD : RCV g x0 q.2.2.1 V H) (hM : R1m g m0 q H) (hN : RRV g m0 q.2.2.1 V H) (hE : RCP g x0 q.2.2.2 P H) (hO : RRP g m0 q.2.2.2 P H) (hY : RMM g m0 H) (hJ : RYK g x0 H) (hZ : PLX q.2.2.1 V q.2.2.2 P) (KK : LGP p l e s m b below meth c g x0 m0 o0 i C S) : W p l e room_1 s m #[Value.ref b] below meth c H locs cells slots (lw_Z below #[Value.ref b] s) (F0 m 527 ls []) := by
  have hx := X.1
  have hb := X.2.1
  refine lv_aload_n (pc := 527) hx hb dL_law_527 rfl (lv_at hl 1 rfl) ?_
  refine law_rd (pc := 528) X hX hbl hS hl 1 (by decide) (by decide) hi hL dL_law_528 dL_law_529 dL_law_531 dL_law_532 dL_law_533 ?_
  refine law_gcallE (pc := 534) (ci := 11) (As := [.int (xs (i + 1))]) (rs := []) X hS (EG.and (E11_plan (m0 := m0) hS.1.2.1 hq.2.1 hq.2.2 hS.2.1.1 (xs (i + 1))) (EG.and (E11_planV (m0 := m0) (V := V) (n := q.1) (fb := q.2.1) hS.1.2.1 hq.2.1 hq.2.2 hS.2.1.1 (xs (i + 1))) (EG.and (E11_planP (m0 := m0) (n := q.1) (fb := q.2.1) hS.1.2.1 hq.2.1 hq.2.2 hZ.1 hS.2.1.1 (xs (i + 1))) (E11_planY (m0 := m0) (n := q.1) (fb := q.2.1) hS.1.2.1 hq.2.1 hq.2.2 hZ.1 hS.2.1.1 (xs (i + 1)))))) vL_59 rfl hS.2.1.1 (by decide) rfl ⟨hC, ⟨hC, hD⟩, ⟨hC, hD, hE⟩, hC, hD, hE, hJ⟩ rfl hl.1 rfl (Nat.le_of_ble_eq_true rfl) ⟨Nat.le_of_ble_eq_true rfl, Nat.le_of_ble_eq_true rfl⟩ ⟨Nat.le_trans (show cells + 8 ≤ C by omega) hcC, Nat.le_trans (show slots + 289 ≤ S by omega) hSl⟩ dL_law_534 (fun x9 Γ1 H locs hp hS9 => ?_)
  obtain ⟨⟨hp1, hp2⟩, ⟨hD9, hO9⟩, ⟨hE9, hO8⟩, hJ9⟩ := hp
  obtain ⟨hx9, hN9⟩ := plQ_c hq hp1
  obtain rfl := Value.int.inj hx9
  have hM := RR1.same hM hS.1.1 hS.2.1.2.1 hp2
  have hN := RRV.same hN hS.1.1 hS.2.1.2.1 hO9
  have hO := RRP.same hO hS.1.1 hS.2.1.2.1 hO8
  have hY := RMM.same hY (hO8 m0 (Or.inl hS.2.1.2.1))
  have hC := hN9
  have hD := hD9
  have hE := hE9
  have hJ := hJ9
  have hS := hS9
  refine lv_pop (pc := 537) hx hb dL_law_537 rfl ?_
  refine lv_aload_n (pc := 538) hx hb dL_law_538 rfl (lv_at hl 2 rfl) ?_
  refine law_rd (pc := 539) X hX hbl hS hl 1 (by decide) (by decide) hi hL dL_law_539 dL_law_540 dL_law_542 dL_law_543 dL_law_544 ?_
  refine law_callE (pc := 545) (ci := 12) (As := [.int (xs (i + 1))]) (rs := []) X hS (EX.and (E12_plan hS.1.2.1 hq.2.1 hq.2.2 hS.2.1.2.1 (xs (i + 1))) (E12_planP (n := q.1) (fb := q.2.1) hS.1.2.1 hq.2.1 hq.2.2 hS.2.1.2.1 (xs (i + 1)))) vL_63 rfl hS.2.1.2.1 (by decide) rfl ⟨hM, hM, hO⟩ rfl hl.1 rfl (Nat.le_of_ble_eq_true rfl) ⟨Nat.le_of_ble_eq_true rfl, Nat.le_of_ble_eq_true rfl⟩ ⟨by omega, by omega⟩ dL_law_545 rfl rfl (fun x9 H locs hp hun hS9 => ?_)
  obtain ⟨hp1, hO8⟩ := hp
  obtain ⟨hx9, hN9⟩ := plQ_m hq hp1
  obtain rfl := Value.int.inj hx9
  have hC := RC1.keep hC hS.1.1 hS.2.1.1 hun rfl
  have hD := RCV.keep hD hq.2.1 hS.1.1 hS9.1.1 hS.2.1.1 hun rfl
  have hN := RRV.keep hN hS.1.1 hS.2.1.2.1 hun rfl rfl
  have hE := RCP.keep hE (pNum_le hq.2.2) hS.1.1 hS9.1.1 hS.2.1.1 hun rfl
  have hY := RMM.keep hY hS.2.1.2.1 hun rfl
  have hJ := RYK.keep hJ hS.1.1 hS.2.1.1 hun rfl
  have hM := hN9
  have hO := hO8
  have hS := hS9
  refine lv_pop (pc := 548) hx hb dL_law_548 rfl ?_
  refine lv_goto (tgt := 1836) (pc := 549) hx hb dL_law_549 rfl ?_
  exact KK _ _ _ _ _ _ (plQ q (xs (i + 1))) V (pNew q.2.2.1 q.2.2.2 P (xs (i + 1))) (by omega) (by omega) hS (plQ_w hq) hC (by rw [plQ_nv]; exact hD) (by rw [plQ_np]; exact hE) hM (by rw [plQ_nv]; exact hN) (by rw [plQ_np]; exact hO) hY hJ (by rw [plQ_nv, plQ_np]; exact plx_plan hq.2.1 hZ) (lv_sub hl [0, 1, 2, 3, 4] rfl)

set_option maxHeartbeats 4000000 in
set_option maxRecDepth 100000 in
theorem law_9 {p : Program} {e : Env} {s : State} {m : MethodId} {below : List Frame} {meth : Method} {c : Code} {l : Launch} {b L i C S x0 m0 o0 : Nat} {xs : Nat → Int32} {g : GG} {Γ : Nat → Nat} {H : Heap} {locs : List Loc} {q : RLT} {V : Nat → VV} {P : Nat → PP} {ls : Array Slot} {cells slots : Nat} (X : CTX p l m meth c cL_law 7 s #[Value.ref b] RL g (AL s)) (hr : meth.sig.returnType = ret) (hX : va_X b L xs s s.heap) (hbl : b < s.heap.size) (hL : L ≤ 3072) (hi : i + 6 ≤ L) (hS : LWS g x0 m0 o0 s Γ H locs) (hl : lv_has ls 7 (LO b x0 m0 o0 i)) (hc : cells + 13 ≤ C) (hs : slots + 380 ≤ S) (hcC : C ≤ 601024) (hSl : S ≤ 7293034) (hq : RLW q) (hC : R1c g x0 q H) (hD : RCV g x0 q.2.2.1 V H) (hM : R1m g m0 q H) (hN : RRV g m0 q.2.2.1 V H) (hE : RCP g x0 q.2.2.2 P H) (hO : RRP g m0 q.2.2.2 P H) (hY : RMM g m0 H) (hJ : RYK g x0 H) (hZ : PLX q.2.2.1 V q.2.2.2 P) (KK : LGP p l e s m b below meth c g x0 m0 o0 i C S) : W p l e room_1 s m #[Value.ref b] below meth c H locs cells slots (lw_Z below #[Value.ref b] s) (F0 m 552 ls []) := by
  have hx := X.1
  have hb := X.2.1
  refine lv_aload_n (pc := 552) hx hb dL_law_552 rfl (lv_at hl 1 rfl) ?_
  refine law_rd (pc := 553) X hX hbl hS hl 1 (by decide) (by decide) hi hL dL_law_553 dL_law_554 dL_law_556 dL_law_557 dL_law_558 ?_
  refine law_rd (pc := 559) X hX hbl hS hl 2 (by decide) (by decide) hi hL dL_law_559 dL_law_560 dL_law_562 dL_law_563 dL_law_564 ?_
  refine law_rd (pc := 565) X hX hbl hS hl 3 (by decide) (by decide) hi hL dL_law_565 dL_law_566 dL_law_568 dL_law_569 dL_law_570 ?_
  refine law_rd (pc := 571) X hX hbl hS hl 4 (by decide) (by decide) hi hL dL_law_571 dL_law_572 dL_law_574 dL_law_575 dL_law_576 ?_
  refine law_rd (pc := 577) X hX hbl hS hl 5 (by decide) (by decide) hi hL dL_law_577 dL_law_578 dL_law_580 dL_law_581 dL_law_582 ?_
  refine law_callE (pc := 583) (ci := 11) (As := [.int (xs (i + 1)), .int (xs (i + 2)), .int (xs (i + 3)), .int (xs (i + 4)), .int (xs (i + 5))]) (rs := []) X hS (E11_callP (n := q.1) (fb := q.2.1) hS.1.2.1 hq.2.1 hq.2.2 hZ.1 hS.2.1.1 (xs (i + 1)) (xs (i + 2)) (xs (i + 3)) (xs (i + 4)) (xs (i + 5))) vL_64 rfl hS.2.1.1 (by decide) rfl ⟨hC, hD, hE⟩ rfl hl.1 rfl (Nat.le_of_ble_eq_true rfl) ⟨Nat.le_of_ble_eq_true rfl, Nat.le_of_ble_eq_true rfl⟩ ⟨by omega, by omega⟩ dL_law_583 rfl rfl (fun x9 H locs hp hun hS9 => ?_)
  obtain ⟨hx9, hN9⟩ := hp
  obtain rfl := Value.int.inj hx9
  have hC := RC1.keep hC hS.1.1 hS.2.1.1 hun rfl
  have hM := RR1.keep hM hS.1.1 hS.2.1.2.1 hun rfl
  have hD := RCV.keep hD hq.2.1 hS.1.1 hS9.1.1 hS.2.1.1 hun rfl
  have hN := RRV.keep hN hS.1.1 hS.2.1.2.1 hun rfl rfl
  have hO := RRP.keep hO hS.1.1 hS.2.1.2.1 hun rfl rfl
  have hY := RMM.keep hY hS.2.1.2.1 hun rfl
  have hJ := RYK.keep hJ hS.1.1 hS.2.1.1 hun rfl
  have hE := hN9
  have hS := hS9
  refine lv_pop (pc := 586) hx hb dL_law_586 rfl ?_
  refine lv_aload_n (pc := 587) hx hb dL_law_587 rfl (lv_at hl 2 rfl) ?_
  refine law_rd (pc := 588) X hX hbl hS hl 1 (by decide) (by decide) hi hL dL_law_588 dL_law_589 dL_law_591 dL_law_592 dL_law_593 ?_
  refine law_rd (pc := 594) X hX hbl hS hl 2 (by decide) (by decide) hi hL dL_law_594 dL_law_595 dL_law_597 dL_law_598 dL_law_599 ?_
  refine law_rd (pc := 600) X hX hbl hS hl 3 (by decide) (by decide) hi hL dL_law_600 dL_law_601 dL_law_603 dL_law_604 dL_law_605 ?_
  refine law_rd (pc := 606) X hX hbl hS hl 4 (by decide) (by decide) hi hL dL_law_606 dL_law_607 dL_law_609 dL_law_610 dL_law_611 ?_
  refine law_rd (pc := 612) X hX hbl hS hl 5 (by decide) (by decide) hi hL dL_law_612 dL_law_613 dL_law_615 dL_law_616 dL_law_617 ?_
  refine law_callE (pc := 618) (ci := 12) (As := [.int (xs (i + 1)), .int (xs (i + 2)), .int (xs (i + 3)), .int (xs (i + 4)), .int (xs (i + 5))]) (rs := []) X hS (E12_callP (n := q.1) (fb := q.2.1) hS.1.2.1 hq.2.1 hq.2.2 hZ.1 hS.2.1.2.1 (xs (i + 1)) (xs (i + 2)) (xs (i + 3)) (xs (i + 4)) (xs (i + 5))) vL_67 rfl hS.2.1.2.1 (by decide) rfl ⟨hM, hN, hO⟩ rfl hl.1 rfl (Nat.le_of_ble_eq_true rfl) ⟨Nat.le_of_ble_eq_true rfl, Nat.le_of_ble_eq_true rfl⟩ ⟨by omega, by omega⟩ dL_law_618 rfl rfl (fun x9 H locs hp hun hS9 => ?_)
  obtain ⟨hx9, hN9⟩ := hp
  obtain rfl := Value.int.inj hx9
  have hC := RC1.keep hC hS.1.1 hS.2.1.1 hun rfl
  have hM := RR1.keep hM hS.1.1 hS.2.1.2.1 hun rfl
  have hD := RCV.keep hD hq.2.1 hS.1.1 hS9.1.1 hS.2.1.1 hun rfl
  have hN := RRV.keep hN hS.1.1 hS.2.1.2.1 hun rfl rfl
  have hE := RCP.keep hE hq.2.2 hS.1.1 hS9.1.1 hS.2.1.1 hun rfl
  have hY := RMM.keep hY hS.2.1.2.1 hun rfl
  have hJ := RYK.keep hJ hS.1.1 hS.2.1.1 hun rfl
  have hO := hN9
  have hS := hS9
  refine lv_pop (pc := 621) hx hb dL_law_621 rfl ?_
  refine lv_goto (tgt := 1836) (pc := 622) hx hb dL_law_622 rfl ?_
  exact KK _ _ _ _ _ _ q _ _ (by omega) (by omega) hS hq hC hD hE hM hN hO hY hJ (plx_call hZ) (lv_sub hl [0, 1, 2, 3, 4] rfl)

set_option maxHeartbeats 4000000 in
set_option maxRecDepth 100000 in
theorem law_10 {p : Program} {e : Env} {s : State} {m : MethodId} {below : List Frame} {meth : Method} {c : Code} {l : Launch} {b L i C S x0 m0 o0 : Nat} {xs : Nat → Int32} {g : GG} {Γ : Nat → Nat} {H : Heap} {locs : List Loc} {q : RLT} {V : Nat → VV} {P : Nat → PP} {ls : Array Slot} {cells slots : Nat} (X : CTX p l m meth c cL_law 7 s #[Value.ref b] RL g (AL s)) (hr : meth.sig.returnType = ret) (hX : va_X b L xs s s.heap) (hbl : b < s.heap.size) (hL : L ≤ 3072) (hi : i + 6 ≤ L) (hS : LWS g x0 m0 o0 s Γ H locs) (hl : lv_has ls 7 (LO b x0 m0 o0 i)) (hc : cells + 13 ≤ C) (hs : slots + 380 ≤ S) (hcC : C ≤ 601024) (hSl : S ≤ 7293034) (hq : RLW q) (hC : R1c g x0 q H) (hD : RCV g x0 q.2.2.1 V H) (hM : R1m g m0 q H) (hN : RRV g m0 q.2.2.1 V H) (hE : RCP g x0 q.2.2.2 P H) (hO : RRP g m0 q.2.2.2 P H) (hY : RMM g m0 H) (hJ : RYK g x0 H) (hZ : PLX q.2.2.1 V q.2.2.2 P) (KK : LGP p l e s m b below meth c g x0 m0 o0 i C S) : W p l e room_1 s m #[Value.ref b] below meth c H locs cells slots (lw_Z below #[Value.ref b] s) (F0 m 625 ls []) := by
  have hx := X.1
  have hb := X.2.1
  refine lv_aload_n (pc := 625) hx hb dL_law_625 rfl (lv_at hl 1 rfl) ?_
  refine law_rd (pc := 626) X hX hbl hS hl 1 (by decide) (by decide) hi hL dL_law_626 dL_law_627 dL_law_629 dL_law_630 dL_law_631 ?_
  refine law_rd (pc := 632) X hX hbl hS hl 2 (by decide) (by decide) hi hL dL_law_632 dL_law_633 dL_law_635 dL_law_636 dL_law_637 ?_
  refine law_callU (pc := 638) (ci := 11) (As := [.int (xs (i + 1)), .int (xs (i + 2))]) (rs := []) X hS (SX11_lawful_0 l g) vL_68 rfl hS.2.1.1 (by decide) rfl ⟨av_ref hS.2.1.1 (by decide), avi_top _, avi_top _, trivial⟩ rfl rfl hl.1 rfl (Nat.le_of_ble_eq_true rfl) ⟨Nat.le_of_ble_eq_true rfl, Nat.le_of_ble_eq_true rfl⟩ ⟨by omega, by omega⟩ dL_law_638 rfl rfl (fun x9 H locs hun hS9 => ?_)
  have hC := RC1.keep hC hS.1.1 hS.2.1.1 hun rfl
  have hM := RR1.keep hM hS.1.1 hS.2.1.2.1 hun rfl
  have hD := RCV.keep hD hq.2.1 hS.1.1 hS9.1.1 hS.2.1.1 hun rfl
  have hN := RRV.keep hN hS.1.1 hS.2.1.2.1 hun rfl rfl
  have hE := RCP.keep hE hq.2.2 hS.1.1 hS9.1.1 hS.2.1.1 hun rfl
  have hO := RRP.keep hO hS.1.1 hS.2.1.2.1 hun rfl rfl
  have hY := RMM.keep hY hS.2.1.2.1 hun rfl
  have hJ := RYK.keep hJ hS.1.1 hS.2.1.1 hun rfl
  have hS := hS9
  refine lv_pop (pc := 641) hx hb dL_law_641 rfl ?_
  refine lv_aload_n (pc := 642) hx hb dL_law_642 rfl (lv_at hl 2 rfl) ?_
  refine law_rd (pc := 643) X hX hbl hS hl 1 (by decide) (by decide) hi hL dL_law_643 dL_law_644 dL_law_646 dL_law_647 dL_law_648 ?_
  refine law_rd (pc := 649) X hX hbl hS hl 2 (by decide) (by decide) hi hL dL_law_649 dL_law_650 dL_law_652 dL_law_653 dL_law_654 ?_
  refine law_callU (pc := 655) (ci := 12) (As := [.int (xs (i + 1)), .int (xs (i + 2))]) (rs := []) X hS (SX12_lawful_0 l g) vL_71 rfl hS.2.1.2.1 (by decide) rfl ⟨av_ref hS.2.1.2.1 (by decide), avi_top _, avi_top _, trivial⟩ rfl rfl hl.1 rfl (Nat.le_of_ble_eq_true rfl) ⟨Nat.le_of_ble_eq_true rfl, Nat.le_of_ble_eq_true rfl⟩ ⟨by omega, by omega⟩ dL_law_655 rfl rfl (fun x9 H locs hun hS9 => ?_)
  have hC := RC1.keep hC hS.1.1 hS.2.1.1 hun rfl
  have hM := RR1.keep hM hS.1.1 hS.2.1.2.1 hun rfl
  have hD := RCV.keep hD hq.2.1 hS.1.1 hS9.1.1 hS.2.1.1 hun rfl
  have hN := RRV.keep hN hS.1.1 hS.2.1.2.1 hun rfl rfl
  have hE := RCP.keep hE hq.2.2 hS.1.1 hS9.1.1 hS.2.1.1 hun rfl
  have hO := RRP.keep hO hS.1.1 hS.2.1.2.1 hun rfl rfl
  have hY := RMM.keep hY hS.2.1.2.1 hun rfl
  have hJ := RYK.keep hJ hS.1.1 hS.2.1.1 hun rfl
  have hS := hS9
  refine lv_pop (pc := 658) hx hb dL_law_658 rfl ?_
  refine lv_goto (tgt := 1836) (pc := 659) hx hb dL_law_659 rfl ?_
  exact KK _ _ _ _ _ _ q _ _ (by omega) (by omega) hS hq hC hD hE hM hN hO hY hJ hZ (lv_sub hl [0, 1, 2, 3, 4] rfl)

set_option maxHeartbeats 4000000 in
set_option maxRecDepth 100000 in
theorem law_11 {p : Program} {e : Env} {s : State} {m : MethodId} {below : List Frame} {meth : Method} {c : Code} {l : Launch} {b L i C S x0 m0 o0 : Nat} {xs : Nat → Int32} {g : GG} {Γ : Nat → Nat} {H : Heap} {locs : List Loc} {q : RLT} {V : Nat → VV} {P : Nat → PP} {ls : Array Slot} {cells slots : Nat} (X : CTX p l m meth c cL_law 7 s #[Value.ref b] RL g (AL s)) (hr : meth.sig.returnType = ret) (hX : va_X b L xs s s.heap) (hbl : b < s.heap.size) (hL : L ≤ 3072) (hi : i + 6 ≤ L) (hS : LWS g x0 m0 o0 s Γ H locs) (hl : lv_has ls 7 (LO b x0 m0 o0 i)) (hc : cells + 13 ≤ C) (hs : slots + 380 ≤ S) (hcC : C ≤ 601024) (hSl : S ≤ 7293034) (hq : RLW q) (hC : R1c g x0 q H) (hD : RCV g x0 q.2.2.1 V H) (hM : R1m g m0 q H) (hN : RRV g m0 q.2.2.1 V H) (hE : RCP g x0 q.2.2.2 P H) (hO : RRP g m0 q.2.2.2 P H) (hY : RMM g m0 H) (hJ : RYK g x0 H) (hZ : PLX q.2.2.1 V q.2.2.2 P) (KK : LGP p l e s m b below meth c g x0 m0 o0 i C S) : W p l e room_1 s m #[Value.ref b] below meth c H locs cells slots (lw_Z below #[Value.ref b] s) (F0 m 662 ls []) := by
  have hx := X.1
  have hb := X.2.1
  refine lv_aload_n (pc := 662) hx hb dL_law_662 rfl (lv_at hl 1 rfl) ?_
  refine law_rd (pc := 663) X hX hbl hS hl 1 (by decide) (by decide) hi hL dL_law_663 dL_law_664 dL_law_666 dL_law_667 dL_law_668 ?_
  refine law_callU (pc := 669) (ci := 11) (As := [.int (xs (i + 1))]) (rs := []) X hS (SX11_unlawful_0 l g) vL_72 rfl hS.2.1.1 (by decide) rfl ⟨av_ref hS.2.1.1 (by decide), avi_top _, trivial⟩ rfl rfl hl.1 rfl (Nat.le_of_ble_eq_true rfl) ⟨Nat.le_of_ble_eq_true rfl, Nat.le_of_ble_eq_true rfl⟩ ⟨by omega, by omega⟩ dL_law_669 rfl rfl (fun x9 H locs hun hS9 => ?_)
  have hC := RC1.keep hC hS.1.1 hS.2.1.1 hun rfl
  have hM := RR1.keep hM hS.1.1 hS.2.1.2.1 hun rfl
  have hD := RCV.keep hD hq.2.1 hS.1.1 hS9.1.1 hS.2.1.1 hun rfl
  have hN := RRV.keep hN hS.1.1 hS.2.1.2.1 hun rfl rfl
  have hE := RCP.keep hE hq.2.2 hS.1.1 hS9.1.1 hS.2.1.1 hun rfl
  have hO := RRP.keep hO hS.1.1 hS.2.1.2.1 hun rfl rfl
  have hY := RMM.keep hY hS.2.1.2.1 hun rfl
  have hJ := RYK.keep hJ hS.1.1 hS.2.1.1 hun rfl
  have hS := hS9
  refine lv_pop (pc := 672) hx hb dL_law_672 rfl ?_
  refine lv_aload_n (pc := 673) hx hb dL_law_673 rfl (lv_at hl 2 rfl) ?_
  refine law_rd (pc := 674) X hX hbl hS hl 1 (by decide) (by decide) hi hL dL_law_674 dL_law_675 dL_law_677 dL_law_678 dL_law_679 ?_
  refine law_callU (pc := 680) (ci := 12) (As := [.int (xs (i + 1))]) (rs := []) X hS (SX12_unlawful_0 l g) vL_75 rfl hS.2.1.2.1 (by decide) rfl ⟨av_ref hS.2.1.2.1 (by decide), avi_top _, trivial⟩ rfl rfl hl.1 rfl (Nat.le_of_ble_eq_true rfl) ⟨Nat.le_of_ble_eq_true rfl, Nat.le_of_ble_eq_true rfl⟩ ⟨by omega, by omega⟩ dL_law_680 rfl rfl (fun x9 H locs hun hS9 => ?_)
  have hC := RC1.keep hC hS.1.1 hS.2.1.1 hun rfl
  have hM := RR1.keep hM hS.1.1 hS.2.1.2.1 hun rfl
  have hD := RCV.keep hD hq.2.1 hS.1.1 hS9.1.1 hS.2.1.1 hun rfl
  have hN := RRV.keep hN hS.1.1 hS.2.1.2.1 hun rfl rfl
  have hE := RCP.keep hE hq.2.2 hS.1.1 hS9.1.1 hS.2.1.1 hun rfl
  have hO := RRP.keep hO hS.1.1 hS.2.1.2.1 hun rfl rfl
  have hY := RMM.keep hY hS.2.1.2.1 hun rfl
  have hJ := RYK.keep hJ hS.1.1 hS.2.1.1 hun rfl
  have hS := hS9
  refine lv_pop (pc := 683) hx hb dL_law_683 rfl ?_
  refine lv_goto (tgt := 1836) (pc := 684) hx hb dL_law_684 rfl ?_
  exact KK _ _ _ _ _ _ q _ _ (by omega) (by omega) hS hq hC hD hE hM hN hO hY hJ hZ (lv_sub hl [0, 1, 2, 3, 4] rfl)

set_option maxHeartbeats 4000000 in
set_option maxRecDepth 100000 in
theorem law_12 {p : Program} {e : Env} {s : State} {m : MethodId} {below : List Frame} {meth : Method} {c : Code} {l : Launch} {b L i C S x0 m0 o0 : Nat} {xs : Nat → Int32} {g : GG} {Γ : Nat → Nat} {H : Heap} {locs : List Loc} {q : RLT} {V : Nat → VV} {P : Nat → PP} {ls : Array Slot} {cells slots : Nat} (X : CTX p l m meth c cL_law 7 s #[Value.ref b] RL g (AL s)) (hr : meth.sig.returnType = ret) (hX : va_X b L xs s s.heap) (hbl : b < s.heap.size) (hL : L ≤ 3072) (hi : i + 6 ≤ L) (hS : LWS g x0 m0 o0 s Γ H locs) (hl : lv_has ls 7 (LO b x0 m0 o0 i)) (hc : cells + 13 ≤ C) (hs : slots + 380 ≤ S) (hcC : C ≤ 601024) (hSl : S ≤ 7293034) (hq : RLW q) (hC : R1c g x0 q H) (hD : RCV g x0 q.2.2.1 V H) (hM : R1m g m0 q H) (hN : RRV g m0 q.2.2.1 V H) (hE : RCP g x0 q.2.2.2 P H) (hO : RRP g m0 q.2.2.2 P H) (hY : RMM g m0 H) (hJ : RYK g x0 H) (hZ : PLX q.2.2.1 V q.2.2.2 P) (KK : LGP p l e s m b below meth c g x0 m0 o0 i C S) : W p l e room_1 s m #[Value.ref b] below meth c H locs cells slots (lw_Z below #[Value.ref b] s) (F0 m 687 ls []) := by
  have hx := X.1
  have hb := X.2.1
  refine lv_aload_n (pc := 687) hx hb dL_law_687 rfl (lv_at hl 1 rfl) ?_
  refine law_rd (pc := 688) X hX hbl hS hl 1 (by decide) (by decide) hi hL dL_law_688 dL_law_689 dL_law_691 dL_law_692 dL_law_693 ?_
  refine law_rd (pc := 694) X hX hbl hS hl 2 (by decide) (by decide) hi hL dL_law_694 dL_law_695 dL_law_697 dL_law_698 dL_law_699 ?_
  refine law_rd (pc := 700) X hX hbl hS hl 3 (by decide) (by decide) hi hL dL_law_700 dL_law_701 dL_law_703 dL_law_704 dL_law_705 ?_
  refine law_callU (pc := 706) (ci := 11) (As := [.int (xs (i + 1)), .int (xs (i + 2)), .int (xs (i + 3))]) (rs := []) X hS (SX11_known_0 l g) vL_76 rfl hS.2.1.1 (by decide) rfl ⟨av_ref hS.2.1.1 (by decide), avi_top _, avi_top _, avi_top _, trivial⟩ rfl rfl hl.1 rfl (Nat.le_of_ble_eq_true rfl) ⟨Nat.le_of_ble_eq_true rfl, Nat.le_of_ble_eq_true rfl⟩ ⟨by omega, by omega⟩ dL_law_706 rfl rfl (fun x9 H locs hun hS9 => ?_)
  have hC := RC1.keep hC hS.1.1 hS.2.1.1 hun rfl
  have hM := RR1.keep hM hS.1.1 hS.2.1.2.1 hun rfl
  have hD := RCV.keep hD hq.2.1 hS.1.1 hS9.1.1 hS.2.1.1 hun rfl
  have hN := RRV.keep hN hS.1.1 hS.2.1.2.1 hun rfl rfl
  have hE := RCP.keep hE hq.2.2 hS.1.1 hS9.1.1 hS.2.1.1 hun rfl
  have hO := RRP.keep hO hS.1.1 hS.2.1.2.1 hun rfl rfl
  have hY := RMM.keep hY hS.2.1.2.1 hun rfl
  have hJ := RYK.keep hJ hS.1.1 hS.2.1.1 hun rfl
  have hS := hS9
  refine lv_pop (pc := 709) hx hb dL_law_709 rfl ?_
  refine lv_aload_n (pc := 710) hx hb dL_law_710 rfl (lv_at hl 2 rfl) ?_
  refine law_rd (pc := 711) X hX hbl hS hl 1 (by decide) (by decide) hi hL dL_law_711 dL_law_712 dL_law_714 dL_law_715 dL_law_716 ?_
  refine law_rd (pc := 717) X hX hbl hS hl 2 (by decide) (by decide) hi hL dL_law_717 dL_law_718 dL_law_720 dL_law_721 dL_law_722 ?_
  refine law_rd (pc := 723) X hX hbl hS hl 3 (by decide) (by decide) hi hL dL_law_723 dL_law_724 dL_law_726 dL_law_727 dL_law_728 ?_
  refine law_callU (pc := 729) (ci := 12) (As := [.int (xs (i + 1)), .int (xs (i + 2)), .int (xs (i + 3))]) (rs := []) X hS (SX12_known_0 l g) vL_79 rfl hS.2.1.2.1 (by decide) rfl ⟨av_ref hS.2.1.2.1 (by decide), avi_top _, avi_top _, avi_top _, trivial⟩ rfl rfl hl.1 rfl (Nat.le_of_ble_eq_true rfl) ⟨Nat.le_of_ble_eq_true rfl, Nat.le_of_ble_eq_true rfl⟩ ⟨by omega, by omega⟩ dL_law_729 rfl rfl (fun x9 H locs hun hS9 => ?_)
  have hC := RC1.keep hC hS.1.1 hS.2.1.1 hun rfl
  have hM := RR1.keep hM hS.1.1 hS.2.1.2.1 hun rfl
  have hD := RCV.keep hD hq.2.1 hS.1.1 hS9.1.1 hS.2.1.1 hun rfl
  have hN := RRV.keep hN hS.1.1 hS.2.1.2.1 hun rfl rfl
  have hE := RCP.keep hE hq.2.2 hS.1.1 hS9.1.1 hS.2.1.1 hun rfl
  have hO := RRP.keep hO hS.1.1 hS.2.1.2.1 hun rfl rfl
  have hY := RMM.keep hY hS.2.1.2.1 hun rfl
  have hJ := RYK.keep hJ hS.1.1 hS.2.1.1 hun rfl
  have hS := hS9
  refine lv_pop (pc := 732) hx hb dL_law_732 rfl ?_
  refine lv_goto (tgt := 1836) (pc := 733) hx hb dL_law_733 rfl ?_
  exact KK _ _ _ _ _ _ q _ _ (by omega) (by omega) hS hq hC hD hE hM hN hO hY hJ hZ (lv_sub hl [0, 1, 2, 3, 4] rfl)

set_option maxHeartbeats 4000000 in
set_option maxRecDepth 100000 in
theorem law_13 {p : Program} {e : Env} {s : State} {m : MethodId} {below : List Frame} {meth : Method} {c : Code} {l : Launch} {b L i C S x0 m0 o0 : Nat} {xs : Nat → Int32} {g : GG} {Γ : Nat → Nat} {H : Heap} {locs : List Loc} {q : RLT} {V : Nat → VV} {P : Nat → PP} {ls : Array Slot} {cells slots : Nat} (X : CTX p l m meth c cL_law 7 s #[Value.ref b] RL g (AL s)) (hr : meth.sig.returnType = ret) (hX : va_X b L xs s s.heap) (hbl : b < s.heap.size) (hL : L ≤ 3072) (hi : i + 6 ≤ L) (hS : LWS g x0 m0 o0 s Γ H locs) (hl : lv_has ls 7 (LO b x0 m0 o0 i)) (hc : cells + 13 ≤ C) (hs : slots + 380 ≤ S) (hcC : C ≤ 601024) (hSl : S ≤ 7293034) (hq : RLW q) (hC : R1c g x0 q H) (hD : RCV g x0 q.2.2.1 V H) (hM : R1m g m0 q H) (hN : RRV g m0 q.2.2.1 V H) (hE : RCP g x0 q.2.2.2 P H) (hO : RRP g m0 q.2.2.2 P H) (hY : RMM g m0 H) (hJ : RYK g x0 H) (hZ : PLX q.2.2.1 V q.2.2.2 P) (KK : LGP p l e s m b below meth c g x0 m0 o0 i C S) : W p l e room_1 s m #[Value.ref b] below meth c H locs cells slots (lw_Z below #[Value.ref b] s) (F0 m 736 ls []) := by
  have hx := X.1
  have hb := X.2.1
  refine lv_aload_n (pc := 736) hx hb dL_law_736 rfl (lv_at hl 1 rfl) ?_
  refine law_rd (pc := 737) X hX hbl hS hl 1 (by decide) (by decide) hi hL dL_law_737 dL_law_738 dL_law_740 dL_law_741 dL_law_742 ?_
  refine law_rd (pc := 743) X hX hbl hS hl 2 (by decide) (by decide) hi hL dL_law_743 dL_law_744 dL_law_746 dL_law_747 dL_law_748 ?_
  refine law_rd (pc := 749) X hX hbl hS hl 3 (by decide) (by decide) hi hL dL_law_749 dL_law_750 dL_law_752 dL_law_753 dL_law_754 ?_
  refine law_callU (pc := 755) (ci := 11) (As := [.int (xs (i + 1)), .int (xs (i + 2)), .int (xs (i + 3))]) (rs := []) X hS (SX11_together_0 l g) vL_80 rfl hS.2.1.1 (by decide) rfl ⟨av_ref hS.2.1.1 (by decide), avi_top _, avi_top _, avi_top _, trivial⟩ rfl rfl hl.1 rfl (Nat.le_of_ble_eq_true rfl) ⟨Nat.le_of_ble_eq_true rfl, Nat.le_of_ble_eq_true rfl⟩ ⟨by omega, by omega⟩ dL_law_755 rfl rfl (fun x9 H locs hun hS9 => ?_)
  have hC := RC1.keep hC hS.1.1 hS.2.1.1 hun rfl
  have hM := RR1.keep hM hS.1.1 hS.2.1.2.1 hun rfl
  have hD := RCV.keep hD hq.2.1 hS.1.1 hS9.1.1 hS.2.1.1 hun rfl
  have hN := RRV.keep hN hS.1.1 hS.2.1.2.1 hun rfl rfl
  have hE := RCP.keep hE hq.2.2 hS.1.1 hS9.1.1 hS.2.1.1 hun rfl
  have hO := RRP.keep hO hS.1.1 hS.2.1.2.1 hun rfl rfl
  have hY := RMM.keep hY hS.2.1.2.1 hun rfl
  have hJ := RYK.keep hJ hS.1.1 hS.2.1.1 hun rfl
  have hS := hS9
  refine lv_pop (pc := 758) hx hb dL_law_758 rfl ?_
  refine lv_aload_n (pc := 759) hx hb dL_law_759 rfl (lv_at hl 2 rfl) ?_
  refine law_rd (pc := 760) X hX hbl hS hl 1 (by decide) (by decide) hi hL dL_law_760 dL_law_761 dL_law_763 dL_law_764 dL_law_765 ?_
  refine law_rd (pc := 766) X hX hbl hS hl 2 (by decide) (by decide) hi hL dL_law_766 dL_law_767 dL_law_769 dL_law_770 dL_law_771 ?_
  refine law_rd (pc := 772) X hX hbl hS hl 3 (by decide) (by decide) hi hL dL_law_772 dL_law_773 dL_law_775 dL_law_776 dL_law_777 ?_
  refine law_callU (pc := 778) (ci := 12) (As := [.int (xs (i + 1)), .int (xs (i + 2)), .int (xs (i + 3))]) (rs := []) X hS (SX12_together_0 l g) vL_83 rfl hS.2.1.2.1 (by decide) rfl ⟨av_ref hS.2.1.2.1 (by decide), avi_top _, avi_top _, avi_top _, trivial⟩ rfl rfl hl.1 rfl (Nat.le_of_ble_eq_true rfl) ⟨Nat.le_of_ble_eq_true rfl, Nat.le_of_ble_eq_true rfl⟩ ⟨by omega, by omega⟩ dL_law_778 rfl rfl (fun x9 H locs hun hS9 => ?_)
  have hC := RC1.keep hC hS.1.1 hS.2.1.1 hun rfl
  have hM := RR1.keep hM hS.1.1 hS.2.1.2.1 hun rfl
  have hD := RCV.keep hD hq.2.1 hS.1.1 hS9.1.1 hS.2.1.1 hun rfl
  have hN := RRV.keep hN hS.1.1 hS.2.1.2.1 hun rfl rfl
  have hE := RCP.keep hE hq.2.2 hS.1.1 hS9.1.1 hS.2.1.1 hun rfl
  have hO := RRP.keep hO hS.1.1 hS.2.1.2.1 hun rfl rfl
  have hY := RMM.keep hY hS.2.1.2.1 hun rfl
  have hJ := RYK.keep hJ hS.1.1 hS.2.1.1 hun rfl
  have hS := hS9
  refine lv_pop (pc := 781) hx hb dL_law_781 rfl ?_
  refine lv_goto (tgt := 1836) (pc := 782) hx hb dL_law_782 rfl ?_
  exact KK _ _ _ _ _ _ q _ _ (by omega) (by omega) hS hq hC hD hE hM hN hO hY hJ hZ (lv_sub hl [0, 1, 2, 3, 4] rfl)

set_option maxHeartbeats 4000000 in
set_option maxRecDepth 100000 in
theorem law_14 {p : Program} {e : Env} {s : State} {m : MethodId} {below : List Frame} {meth : Method} {c : Code} {l : Launch} {b L i C S x0 m0 o0 : Nat} {xs : Nat → Int32} {g : GG} {Γ : Nat → Nat} {H : Heap} {locs : List Loc} {q : RLT} {V : Nat → VV} {P : Nat → PP} {ls : Array Slot} {cells slots : Nat} (X : CTX p l m meth c cL_law 7 s #[Value.ref b] RL g (AL s)) (hr : meth.sig.returnType = ret) (hX : va_X b L xs s s.heap) (hbl : b < s.heap.size) (hL : L ≤ 3072) (hi : i + 6 ≤ L) (hS : LWS g x0 m0 o0 s Γ H locs) (hl : lv_has ls 7 (LO b x0 m0 o0 i)) (hc : cells + 13 ≤ C) (hs : slots + 380 ≤ S) (hcC : C ≤ 601024) (hSl : S ≤ 7293034) (hq : RLW q) (hC : R1c g x0 q H) (hD : RCV g x0 q.2.2.1 V H) (hM : R1m g m0 q H) (hN : RRV g m0 q.2.2.1 V H) (hE : RCP g x0 q.2.2.2 P H) (hO : RRP g m0 q.2.2.2 P H) (hY : RMM g m0 H) (hJ : RYK g x0 H) (hZ : PLX q.2.2.1 V q.2.2.2 P) (KK : LGP p l e s m b below meth c g x0 m0 o0 i C S) : W p l e room_1 s m #[Value.ref b] below meth c H locs cells slots (lw_Z below #[Value.ref b] s) (F0 m 785 ls []) := by
  have hx := X.1
  have hb := X.2.1
  refine lv_aload_n (pc := 785) hx hb dL_law_785 rfl (lv_at hl 1 rfl) ?_
  refine law_rd (pc := 786) X hX hbl hS hl 1 (by decide) (by decide) hi hL dL_law_786 dL_law_787 dL_law_789 dL_law_790 dL_law_791 ?_
  refine law_rd (pc := 792) X hX hbl hS hl 2 (by decide) (by decide) hi hL dL_law_792 dL_law_793 dL_law_795 dL_law_796 dL_law_797 ?_
  refine law_callU (pc := 798) (ci := 11) (As := [.int (xs (i + 1)), .int (xs (i + 2))]) (rs := []) X hS (SX11_when_0 l g) vL_84 rfl hS.2.1.1 (by decide) rfl ⟨av_ref hS.2.1.1 (by decide), avi_top _, avi_top _, trivial⟩ rfl rfl hl.1 rfl (Nat.le_of_ble_eq_true rfl) ⟨Nat.le_of_ble_eq_true rfl, Nat.le_of_ble_eq_true rfl⟩ ⟨by omega, by omega⟩ dL_law_798 rfl rfl (fun x9 H locs hun hS9 => ?_)
  have hC := RC1.keep hC hS.1.1 hS.2.1.1 hun rfl
  have hM := RR1.keep hM hS.1.1 hS.2.1.2.1 hun rfl
  have hD := RCV.keep hD hq.2.1 hS.1.1 hS9.1.1 hS.2.1.1 hun rfl
  have hN := RRV.keep hN hS.1.1 hS.2.1.2.1 hun rfl rfl
  have hE := RCP.keep hE hq.2.2 hS.1.1 hS9.1.1 hS.2.1.1 hun rfl
  have hO := RRP.keep hO hS.1.1 hS.2.1.2.1 hun rfl rfl
  have hY := RMM.keep hY hS.2.1.2.1 hun rfl
  have hJ := RYK.keep hJ hS.1.1 hS.2.1.1 hun rfl
  have hS := hS9
  refine lv_pop (pc := 801) hx hb dL_law_801 rfl ?_
  refine lv_aload_n (pc := 802) hx hb dL_law_802 rfl (lv_at hl 2 rfl) ?_
  refine law_rd (pc := 803) X hX hbl hS hl 1 (by decide) (by decide) hi hL dL_law_803 dL_law_804 dL_law_806 dL_law_807 dL_law_808 ?_
  refine law_rd (pc := 809) X hX hbl hS hl 2 (by decide) (by decide) hi hL dL_law_809 dL_law_810 dL_law_812 dL_law_813 dL_law_814 ?_
  refine law_callU (pc := 815) (ci := 12) (As := [.int (xs (i + 1)), .int (xs (i + 2))]) (rs := []) X hS (SX12_when_0 l g) vL_87 rfl hS.2.1.2.1 (by decide) rfl ⟨av_ref hS.2.1.2.1 (by decide), avi_top _, avi_top _, trivial⟩ rfl rfl hl.1 rfl (Nat.le_of_ble_eq_true rfl) ⟨Nat.le_of_ble_eq_true rfl, Nat.le_of_ble_eq_true rfl⟩ ⟨by omega, by omega⟩ dL_law_815 rfl rfl (fun x9 H locs hun hS9 => ?_)
  have hC := RC1.keep hC hS.1.1 hS.2.1.1 hun rfl
  have hM := RR1.keep hM hS.1.1 hS.2.1.2.1 hun rfl
  have hD := RCV.keep hD hq.2.1 hS.1.1 hS9.1.1 hS.2.1.1 hun rfl
  have hN := RRV.keep hN hS.1.1 hS.2.1.2.1 hun rfl rfl
  have hE := RCP.keep hE hq.2.2 hS.1.1 hS9.1.1 hS.2.1.1 hun rfl
  have hO := RRP.keep hO hS.1.1 hS.2.1.2.1 hun rfl rfl
  have hY := RMM.keep hY hS.2.1.2.1 hun rfl
  have hJ := RYK.keep hJ hS.1.1 hS.2.1.1 hun rfl
  have hS := hS9
  refine lv_pop (pc := 818) hx hb dL_law_818 rfl ?_
  refine lv_goto (tgt := 1836) (pc := 819) hx hb dL_law_819 rfl ?_
  exact KK _ _ _ _ _ _ q _ _ (by omega) (by omega) hS hq hC hD hE hM hN hO hY hJ hZ (lv_sub hl [0, 1, 2, 3, 4] rfl)

set_option maxHeartbeats 4000000 in
set_option maxRecDepth 100000 in
theorem law_15 {p : Program} {e : Env} {s : State} {m : MethodId} {below : List Frame} {meth : Method} {c : Code} {l : Launch} {b L i C S x0 m0 o0 : Nat} {xs : Nat → Int32} {g : GG} {Γ : Nat → Nat} {H : Heap} {locs : List Loc} {q : RLT} {V : Nat → VV} {P : Nat → PP} {ls : Array Slot} {cells slots : Nat} (X : CTX p l m meth c cL_law 7 s #[Value.ref b] RL g (AL s)) (hr : meth.sig.returnType = ret) (hX : va_X b L xs s s.heap) (hbl : b < s.heap.size) (hL : L ≤ 3072) (hi : i + 6 ≤ L) (hS : LWS g x0 m0 o0 s Γ H locs) (hl : lv_has ls 7 (LO b x0 m0 o0 i)) (hc : cells + 13 ≤ C) (hs : slots + 380 ≤ S) (hcC : C ≤ 601024) (hSl : S ≤ 7293034) (hq : RLW q) (hC : R1c g x0 q H) (hD : RCV g x0 q.2.2.1 V H) (hM : R1m g m0 q H) (hN : RRV g m0 q.2.2.1 V H) (hE : RCP g x0 q.2.2.2 P H) (hO : RRP g m0 q.2.2.2 P H) (hY : RMM g m0 H) (hJ : RYK g x0 H) (hZ : PLX q.2.2.1 V q.2.2.2 P) (KK : LGP p l e s m b below meth c g x0 m0 o0 i C S) : W p l e room_1 s m #[Value.ref b] below meth c H locs cells slots (lw_Z below #[Value.ref b] s) (F0 m 822 ls []) := by
  have hx := X.1
  have hb := X.2.1
  refine lv_aload_n (pc := 822) hx hb dL_law_822 rfl (lv_at hl 1 rfl) ?_
  refine law_rd (pc := 823) X hX hbl hS hl 1 (by decide) (by decide) hi hL dL_law_823 dL_law_824 dL_law_826 dL_law_827 dL_law_828 ?_
  refine law_rd (pc := 829) X hX hbl hS hl 2 (by decide) (by decide) hi hL dL_law_829 dL_law_830 dL_law_832 dL_law_833 dL_law_834 ?_
  refine law_rd (pc := 835) X hX hbl hS hl 3 (by decide) (by decide) hi hL dL_law_835 dL_law_836 dL_law_838 dL_law_839 dL_law_840 ?_
  refine law_callE (pc := 841) (ci := 11) (As := [.int (xs (i + 1)), .int (xs (i + 2)), .int (xs (i + 3))]) (rs := []) X hS (E11_leastJ (n := q.1) (fb := q.2.1) (np := q.2.2.2) hS.1.2.1 hq.2.1 hZ.2.2 hS.2.1.1 (xs (i + 1)) (xs (i + 2)) (xs (i + 3))) vL_88 rfl hS.2.1.1 (by decide) rfl ⟨hC, hD, hJ⟩ rfl hl.1 rfl (Nat.le_of_ble_eq_true rfl) ⟨Nat.le_of_ble_eq_true rfl, Nat.le_of_ble_eq_true rfl⟩ ⟨by omega, by omega⟩ dL_law_841 rfl rfl (fun x9 H locs hp hun hS9 => ?_)
  have hp := hp.2
  have hC := RC1.keep hC hS.1.1 hS.2.1.1 hun rfl
  have hM := RR1.keep hM hS.1.1 hS.2.1.2.1 hun rfl
  have hD := RCV.keep hD hq.2.1 hS.1.1 hS9.1.1 hS.2.1.1 hun rfl
  have hN := RRV.keep hN hS.1.1 hS.2.1.2.1 hun rfl rfl
  have hE := RCP.keep hE hq.2.2 hS.1.1 hS9.1.1 hS.2.1.1 hun rfl
  have hO := RRP.keep hO hS.1.1 hS.2.1.2.1 hun rfl rfl
  have hY := RMM.keep hY hS.2.1.2.1 hun rfl
  have hJ := hp
  have hS := hS9
  refine lv_pop (pc := 844) hx hb dL_law_844 rfl ?_
  refine lv_aload_n (pc := 845) hx hb dL_law_845 rfl (lv_at hl 2 rfl) ?_
  refine law_rd (pc := 846) X hX hbl hS hl 1 (by decide) (by decide) hi hL dL_law_846 dL_law_847 dL_law_849 dL_law_850 dL_law_851 ?_
  refine law_rd (pc := 852) X hX hbl hS hl 2 (by decide) (by decide) hi hL dL_law_852 dL_law_853 dL_law_855 dL_law_856 dL_law_857 ?_
  refine law_rd (pc := 858) X hX hbl hS hl 3 (by decide) (by decide) hi hL dL_law_858 dL_law_859 dL_law_861 dL_law_862 dL_law_863 ?_
  refine law_callU (pc := 864) (ci := 12) (As := [.int (xs (i + 1)), .int (xs (i + 2)), .int (xs (i + 3))]) (rs := []) X hS (SX12_least_0 l g) vL_91 rfl hS.2.1.2.1 (by decide) rfl ⟨av_ref hS.2.1.2.1 (by decide), avi_top _, avi_top _, avi_top _, trivial⟩ rfl rfl hl.1 rfl (Nat.le_of_ble_eq_true rfl) ⟨Nat.le_of_ble_eq_true rfl, Nat.le_of_ble_eq_true rfl⟩ ⟨by omega, by omega⟩ dL_law_864 rfl rfl (fun x9 H locs hun hS9 => ?_)
  have hC := RC1.keep hC hS.1.1 hS.2.1.1 hun rfl
  have hM := RR1.keep hM hS.1.1 hS.2.1.2.1 hun rfl
  have hD := RCV.keep hD hq.2.1 hS.1.1 hS9.1.1 hS.2.1.1 hun rfl
  have hN := RRV.keep hN hS.1.1 hS.2.1.2.1 hun rfl rfl
  have hE := RCP.keep hE hq.2.2 hS.1.1 hS9.1.1 hS.2.1.1 hun rfl
  have hO := RRP.keep hO hS.1.1 hS.2.1.2.1 hun rfl rfl
  have hY := RMM.keep hY hS.2.1.2.1 hun rfl
  have hJ := RYK.keep hJ hS.1.1 hS.2.1.1 hun rfl
  have hS := hS9
  refine lv_pop (pc := 867) hx hb dL_law_867 rfl ?_
  refine lv_goto (tgt := 1836) (pc := 868) hx hb dL_law_868 rfl ?_
  exact KK _ _ _ _ _ _ q _ _ (by omega) (by omega) hS hq hC hD hE hM hN hO hY hJ hZ (lv_sub hl [0, 1, 2, 3, 4] rfl)

set_option maxHeartbeats 4000000 in
set_option maxRecDepth 100000 in
theorem law_16 {p : Program} {e : Env} {s : State} {m : MethodId} {below : List Frame} {meth : Method} {c : Code} {l : Launch} {b L i C S x0 m0 o0 : Nat} {xs : Nat → Int32} {g : GG} {Γ : Nat → Nat} {H : Heap} {locs : List Loc} {q : RLT} {V : Nat → VV} {P : Nat → PP} {ls : Array Slot} {cells slots : Nat} (X : CTX p l m meth c cL_law 7 s #[Value.ref b] RL g (AL s)) (hr : meth.sig.returnType = ret) (hX : va_X b L xs s s.heap) (hbl : b < s.heap.size) (hL : L ≤ 3072) (hi : i + 6 ≤ L) (hS : LWS g x0 m0 o0 s Γ H locs) (hl : lv_has ls 7 (LO b x0 m0 o0 i)) (hc : cells + 13 ≤ C) (hs : slots + 380 ≤ S) (hcC : C ≤ 601024) (hSl : S ≤ 7293034) (hq : RLW q) (hC : R1c g x0 q H) (hD : RCV g x0 q.2.2.1 V H) (hM : R1m g m0 q H) (hN : RRV g m0 q.2.2.1 V H) (hE : RCP g x0 q.2.2.2 P H) (hO : RRP g m0 q.2.2.2 P H) (hY : RMM g m0 H) (hJ : RYK g x0 H) (hZ : PLX q.2.2.1 V q.2.2.2 P) (KK : LGP p l e s m b below meth c g x0 m0 o0 i C S) : W p l e room_1 s m #[Value.ref b] below meth c H locs cells slots (lw_Z below #[Value.ref b] s) (F0 m 871 ls []) := by
  have hx := X.1
  have hb := X.2.1
  refine lv_aload_n (pc := 871) hx hb dL_law_871 rfl (lv_at hl 1 rfl) ?_
  refine law_rd (pc := 872) X hX hbl hS hl 1 (by decide) (by decide) hi hL dL_law_872 dL_law_873 dL_law_875 dL_law_876 dL_law_877 ?_
  refine law_rd (pc := 878) X hX hbl hS hl 2 (by decide) (by decide) hi hL dL_law_878 dL_law_879 dL_law_881 dL_law_882 dL_law_883 ?_
  refine law_rd (pc := 884) X hX hbl hS hl 3 (by decide) (by decide) hi hL dL_law_884 dL_law_885 dL_law_887 dL_law_888 dL_law_889 ?_
  refine law_rd (pc := 890) X hX hbl hS hl 4 (by decide) (by decide) hi hL dL_law_890 dL_law_891 dL_law_893 dL_law_894 dL_law_895 ?_
  refine law_rd (pc := 896) X hX hbl hS hl 5 (by decide) (by decide) hi hL dL_law_896 dL_law_897 dL_law_899 dL_law_900 dL_law_901 ?_
  refine law_callE (pc := 902) (ci := 11) (As := [.int (xs (i + 1)), .int (xs (i + 2)), .int (xs (i + 3)), .int (xs (i + 4)), .int (xs (i + 5))]) (rs := []) X hS (E11_foundJ (n := q.1) (fb := q.2.1) (np := q.2.2.2) hS.1.2.1 hq.2.1 hS.2.1.1 (xs (i + 1)) (xs (i + 2)) (xs (i + 3)) (xs (i + 4)) (xs (i + 5))) vL_92 rfl hS.2.1.1 (by decide) rfl ⟨hC, hD, hJ⟩ rfl hl.1 rfl (Nat.le_of_ble_eq_true rfl) ⟨Nat.le_of_ble_eq_true rfl, Nat.le_of_ble_eq_true rfl⟩ ⟨by omega, by omega⟩ dL_law_902 rfl rfl (fun x9 H locs hp hun hS9 => ?_)
  have hC := RC1.keep hC hS.1.1 hS.2.1.1 hun rfl
  have hM := RR1.keep hM hS.1.1 hS.2.1.2.1 hun rfl
  have hD := RCV.keep hD hq.2.1 hS.1.1 hS9.1.1 hS.2.1.1 hun rfl
  have hN := RRV.keep hN hS.1.1 hS.2.1.2.1 hun rfl rfl
  have hE := RCP.keep hE hq.2.2 hS.1.1 hS9.1.1 hS.2.1.1 hun rfl
  have hO := RRP.keep hO hS.1.1 hS.2.1.2.1 hun rfl rfl
  have hY := RMM.keep hY hS.2.1.2.1 hun rfl
  have hJ := hp
  have hS := hS9
  refine lv_pop (pc := 905) hx hb dL_law_905 rfl ?_
  refine lv_aload_n (pc := 906) hx hb dL_law_906 rfl (lv_at hl 2 rfl) ?_
  refine law_rd (pc := 907) X hX hbl hS hl 1 (by decide) (by decide) hi hL dL_law_907 dL_law_908 dL_law_910 dL_law_911 dL_law_912 ?_
  refine law_rd (pc := 913) X hX hbl hS hl 2 (by decide) (by decide) hi hL dL_law_913 dL_law_914 dL_law_916 dL_law_917 dL_law_918 ?_
  refine law_rd (pc := 919) X hX hbl hS hl 3 (by decide) (by decide) hi hL dL_law_919 dL_law_920 dL_law_922 dL_law_923 dL_law_924 ?_
  refine law_rd (pc := 925) X hX hbl hS hl 4 (by decide) (by decide) hi hL dL_law_925 dL_law_926 dL_law_928 dL_law_929 dL_law_930 ?_
  refine law_rd (pc := 931) X hX hbl hS hl 5 (by decide) (by decide) hi hL dL_law_931 dL_law_932 dL_law_934 dL_law_935 dL_law_936 ?_
  refine law_callU (pc := 937) (ci := 12) (As := [.int (xs (i + 1)), .int (xs (i + 2)), .int (xs (i + 3)), .int (xs (i + 4)), .int (xs (i + 5))]) (rs := []) X hS (SX12_found_0 l g) vL_95 rfl hS.2.1.2.1 (by decide) rfl ⟨av_ref hS.2.1.2.1 (by decide), avi_top _, avi_top _, avi_top _, avi_top _, avi_top _, trivial⟩ rfl rfl hl.1 rfl (Nat.le_of_ble_eq_true rfl) ⟨Nat.le_of_ble_eq_true rfl, Nat.le_of_ble_eq_true rfl⟩ ⟨by omega, by omega⟩ dL_law_937 rfl rfl (fun x9 H locs hun hS9 => ?_)
  have hC := RC1.keep hC hS.1.1 hS.2.1.1 hun rfl
  have hM := RR1.keep hM hS.1.1 hS.2.1.2.1 hun rfl
  have hD := RCV.keep hD hq.2.1 hS.1.1 hS9.1.1 hS.2.1.1 hun rfl
  have hN := RRV.keep hN hS.1.1 hS.2.1.2.1 hun rfl rfl
  have hE := RCP.keep hE hq.2.2 hS.1.1 hS9.1.1 hS.2.1.1 hun rfl
  have hO := RRP.keep hO hS.1.1 hS.2.1.2.1 hun rfl rfl
  have hY := RMM.keep hY hS.2.1.2.1 hun rfl
  have hJ := RYK.keep hJ hS.1.1 hS.2.1.1 hun rfl
  have hS := hS9
  refine lv_pop (pc := 940) hx hb dL_law_940 rfl ?_
  refine lv_goto (tgt := 1836) (pc := 941) hx hb dL_law_941 rfl ?_
  exact KK _ _ _ _ _ _ q _ _ (by omega) (by omega) hS hq hC hD hE hM hN hO hY hJ hZ (lv_sub hl [0, 1, 2, 3, 4] rfl)

set_option maxHeartbeats 4000000 in
set_option maxRecDepth 100000 in
theorem law_17 {p : Program} {e : Env} {s : State} {m : MethodId} {below : List Frame} {meth : Method} {c : Code} {l : Launch} {b L i C S x0 m0 o0 : Nat} {xs : Nat → Int32} {g : GG} {Γ : Nat → Nat} {H : Heap} {locs : List Loc} {q : RLT} {V : Nat → VV} {P : Nat → PP} {ls : Array Slot} {cells slots : Nat} (X : CTX p l m meth c cL_law 7 s #[Value.ref b] RL g (AL s)) (hr : meth.sig.returnType = ret) (hX : va_X b L xs s s.heap) (hbl : b < s.heap.size) (hL : L ≤ 3072) (hi : i + 6 ≤ L) (hS : LWS g x0 m0 o0 s Γ H locs) (hl : lv_has ls 7 (LO b x0 m0 o0 i)) (hc : cells + 13 ≤ C) (hs : slots + 380 ≤ S) (hcC : C ≤ 601024) (hSl : S ≤ 7293034) (hq : RLW q) (hC : R1c g x0 q H) (hD : RCV g x0 q.2.2.1 V H) (hM : R1m g m0 q H) (hN : RRV g m0 q.2.2.1 V H) (hE : RCP g x0 q.2.2.2 P H) (hO : RRP g m0 q.2.2.2 P H) (hY : RMM g m0 H) (hJ : RYK g x0 H) (hZ : PLX q.2.2.1 V q.2.2.2 P) (KK : LGP p l e s m b below meth c g x0 m0 o0 i C S) : W p l e room_1 s m #[Value.ref b] below meth c H locs cells slots (lw_Z below #[Value.ref b] s) (F0 m 944 ls []) := by
  have hx := X.1
  have hb := X.2.1
  refine lv_aload_n (pc := 944) hx hb dL_law_944 rfl (lv_at hl 1 rfl) ?_
  refine law_rd (pc := 945) X hX hbl hS hl 1 (by decide) (by decide) hi hL dL_law_945 dL_law_946 dL_law_948 dL_law_949 dL_law_950 ?_
  refine law_rd (pc := 951) X hX hbl hS hl 2 (by decide) (by decide) hi hL dL_law_951 dL_law_952 dL_law_954 dL_law_955 dL_law_956 ?_
  refine law_rd (pc := 957) X hX hbl hS hl 3 (by decide) (by decide) hi hL dL_law_957 dL_law_958 dL_law_960 dL_law_961 dL_law_962 ?_
  refine law_rd (pc := 963) X hX hbl hS hl 4 (by decide) (by decide) hi hL dL_law_963 dL_law_964 dL_law_966 dL_law_967 dL_law_968 ?_
  refine law_callU (pc := 969) (ci := 11) (As := [.int (xs (i + 1)), .int (xs (i + 2)), .int (xs (i + 3)), .int (xs (i + 4))]) (rs := []) X hS (SX11_reach_0 l g) vL_96 rfl hS.2.1.1 (by decide) rfl ⟨av_ref hS.2.1.1 (by decide), avi_top _, avi_top _, avi_top _, avi_top _, trivial⟩ rfl rfl hl.1 rfl (Nat.le_of_ble_eq_true rfl) ⟨Nat.le_of_ble_eq_true rfl, Nat.le_of_ble_eq_true rfl⟩ ⟨by omega, by omega⟩ dL_law_969 rfl rfl (fun x9 H locs hun hS9 => ?_)
  have hC := RC1.keep hC hS.1.1 hS.2.1.1 hun rfl
  have hM := RR1.keep hM hS.1.1 hS.2.1.2.1 hun rfl
  have hD := RCV.keep hD hq.2.1 hS.1.1 hS9.1.1 hS.2.1.1 hun rfl
  have hN := RRV.keep hN hS.1.1 hS.2.1.2.1 hun rfl rfl
  have hE := RCP.keep hE hq.2.2 hS.1.1 hS9.1.1 hS.2.1.1 hun rfl
  have hO := RRP.keep hO hS.1.1 hS.2.1.2.1 hun rfl rfl
  have hY := RMM.keep hY hS.2.1.2.1 hun rfl
  have hJ := RYK.keep hJ hS.1.1 hS.2.1.1 hun rfl
  have hS := hS9
  refine lv_pop (pc := 972) hx hb dL_law_972 rfl ?_
  refine lv_aload_n (pc := 973) hx hb dL_law_973 rfl (lv_at hl 2 rfl) ?_
  refine law_rd (pc := 974) X hX hbl hS hl 1 (by decide) (by decide) hi hL dL_law_974 dL_law_975 dL_law_977 dL_law_978 dL_law_979 ?_
  refine law_rd (pc := 980) X hX hbl hS hl 2 (by decide) (by decide) hi hL dL_law_980 dL_law_981 dL_law_983 dL_law_984 dL_law_985 ?_
  refine law_rd (pc := 986) X hX hbl hS hl 3 (by decide) (by decide) hi hL dL_law_986 dL_law_987 dL_law_989 dL_law_990 dL_law_991 ?_
  refine law_rd (pc := 992) X hX hbl hS hl 4 (by decide) (by decide) hi hL dL_law_992 dL_law_993 dL_law_995 dL_law_996 dL_law_997 ?_
  refine law_callU (pc := 998) (ci := 12) (As := [.int (xs (i + 1)), .int (xs (i + 2)), .int (xs (i + 3)), .int (xs (i + 4))]) (rs := []) X hS (SX12_reach_0 l g) vL_99 rfl hS.2.1.2.1 (by decide) rfl ⟨av_ref hS.2.1.2.1 (by decide), avi_top _, avi_top _, avi_top _, avi_top _, trivial⟩ rfl rfl hl.1 rfl (Nat.le_of_ble_eq_true rfl) ⟨Nat.le_of_ble_eq_true rfl, Nat.le_of_ble_eq_true rfl⟩ ⟨by omega, by omega⟩ dL_law_998 rfl rfl (fun x9 H locs hun hS9 => ?_)
  have hC := RC1.keep hC hS.1.1 hS.2.1.1 hun rfl
  have hM := RR1.keep hM hS.1.1 hS.2.1.2.1 hun rfl
  have hD := RCV.keep hD hq.2.1 hS.1.1 hS9.1.1 hS.2.1.1 hun rfl
  have hN := RRV.keep hN hS.1.1 hS.2.1.2.1 hun rfl rfl
  have hE := RCP.keep hE hq.2.2 hS.1.1 hS9.1.1 hS.2.1.1 hun rfl
  have hO := RRP.keep hO hS.1.1 hS.2.1.2.1 hun rfl rfl
  have hY := RMM.keep hY hS.2.1.2.1 hun rfl
  have hJ := RYK.keep hJ hS.1.1 hS.2.1.1 hun rfl
  have hS := hS9
  refine lv_pop (pc := 1001) hx hb dL_law_1001 rfl ?_
  refine lv_goto (tgt := 1836) (pc := 1002) hx hb dL_law_1002 rfl ?_
  exact KK _ _ _ _ _ _ q _ _ (by omega) (by omega) hS hq hC hD hE hM hN hO hY hJ hZ (lv_sub hl [0, 1, 2, 3, 4] rfl)

set_option maxHeartbeats 4000000 in
set_option maxRecDepth 100000 in
theorem law_18 {p : Program} {e : Env} {s : State} {m : MethodId} {below : List Frame} {meth : Method} {c : Code} {l : Launch} {b L i C S x0 m0 o0 : Nat} {xs : Nat → Int32} {g : GG} {Γ : Nat → Nat} {H : Heap} {locs : List Loc} {q : RLT} {V : Nat → VV} {P : Nat → PP} {ls : Array Slot} {cells slots : Nat} (X : CTX p l m meth c cL_law 7 s #[Value.ref b] RL g (AL s)) (hr : meth.sig.returnType = ret) (hX : va_X b L xs s s.heap) (hbl : b < s.heap.size) (hL : L ≤ 3072) (hi : i + 6 ≤ L) (hS : LWS g x0 m0 o0 s Γ H locs) (hl : lv_has ls 7 (LO b x0 m0 o0 i)) (hc : cells + 13 ≤ C) (hs : slots + 380 ≤ S) (hcC : C ≤ 601024) (hSl : S ≤ 7293034) (hq : RLW q) (hC : R1c g x0 q H) (hD : RCV g x0 q.2.2.1 V H) (hM : R1m g m0 q H) (hN : RRV g m0 q.2.2.1 V H) (hE : RCP g x0 q.2.2.2 P H) (hO : RRP g m0 q.2.2.2 P H) (hY : RMM g m0 H) (hJ : RYK g x0 H) (hZ : PLX q.2.2.1 V q.2.2.2 P) (KK : LGP p l e s m b below meth c g x0 m0 o0 i C S) : W p l e room_1 s m #[Value.ref b] below meth c H locs cells slots (lw_Z below #[Value.ref b] s) (F0 m 1005 ls []) := by
  have hx := X.1
  have hb := X.2.1
  refine lv_aload_n (pc := 1005) hx hb dL_law_1005 rfl (lv_at hl 1 rfl) ?_
  refine law_rd (pc := 1006) X hX hbl hS hl 1 (by decide) (by decide) hi hL dL_law_1006 dL_law_1007 dL_law_1009 dL_law_1010 dL_law_1011 ?_
  refine law_rd (pc := 1012) X hX hbl hS hl 2 (by decide) (by decide) hi hL dL_law_1012 dL_law_1013 dL_law_1015 dL_law_1016 dL_law_1017 ?_
  refine law_rd (pc := 1018) X hX hbl hS hl 3 (by decide) (by decide) hi hL dL_law_1018 dL_law_1019 dL_law_1021 dL_law_1022 dL_law_1023 ?_
  refine law_callE (pc := 1024) (ci := 11) (As := [.int (xs (i + 1)), .int (xs (i + 2)), .int (xs (i + 3))]) (rs := []) X hS (E11_fromJ (n := q.1) (fb := q.2.1) hS.1.2.1 hq.2.1 hq.2.2 hZ hS.2.1.1 (xs (i + 1)) (xs (i + 2)) (xs (i + 3))) vL_100 rfl hS.2.1.1 (by decide) rfl ⟨hC, hD, hE, hJ⟩ rfl hl.1 rfl (Nat.le_of_ble_eq_true rfl) ⟨Nat.le_of_ble_eq_true rfl, Nat.le_of_ble_eq_true rfl⟩ ⟨by omega, by omega⟩ dL_law_1024 rfl rfl (fun x9 H locs hp hun hS9 => ?_)
  have hC := RC1.keep hC hS.1.1 hS.2.1.1 hun rfl
  have hM := RR1.keep hM hS.1.1 hS.2.1.2.1 hun rfl
  have hD := RCV.keep hD hq.2.1 hS.1.1 hS9.1.1 hS.2.1.1 hun rfl
  have hN := RRV.keep hN hS.1.1 hS.2.1.2.1 hun rfl rfl
  have hE := RCP.keep hE hq.2.2 hS.1.1 hS9.1.1 hS.2.1.1 hun rfl
  have hO := RRP.keep hO hS.1.1 hS.2.1.2.1 hun rfl rfl
  have hY := RMM.keep hY hS.2.1.2.1 hun rfl
  have hJ := hp
  have hS := hS9
  refine lv_pop (pc := 1027) hx hb dL_law_1027 rfl ?_
  refine lv_aload_n (pc := 1028) hx hb dL_law_1028 rfl (lv_at hl 2 rfl) ?_
  refine law_rd (pc := 1029) X hX hbl hS hl 1 (by decide) (by decide) hi hL dL_law_1029 dL_law_1030 dL_law_1032 dL_law_1033 dL_law_1034 ?_
  refine law_rd (pc := 1035) X hX hbl hS hl 2 (by decide) (by decide) hi hL dL_law_1035 dL_law_1036 dL_law_1038 dL_law_1039 dL_law_1040 ?_
  refine law_rd (pc := 1041) X hX hbl hS hl 3 (by decide) (by decide) hi hL dL_law_1041 dL_law_1042 dL_law_1044 dL_law_1045 dL_law_1046 ?_
  refine law_callU (pc := 1047) (ci := 12) (As := [.int (xs (i + 1)), .int (xs (i + 2)), .int (xs (i + 3))]) (rs := []) X hS (SX12_from_0 l g) vL_103 rfl hS.2.1.2.1 (by decide) rfl ⟨av_ref hS.2.1.2.1 (by decide), avi_top _, avi_top _, avi_top _, trivial⟩ rfl rfl hl.1 rfl (Nat.le_of_ble_eq_true rfl) ⟨Nat.le_of_ble_eq_true rfl, Nat.le_of_ble_eq_true rfl⟩ ⟨by omega, by omega⟩ dL_law_1047 rfl rfl (fun x9 H locs hun hS9 => ?_)
  have hC := RC1.keep hC hS.1.1 hS.2.1.1 hun rfl
  have hM := RR1.keep hM hS.1.1 hS.2.1.2.1 hun rfl
  have hD := RCV.keep hD hq.2.1 hS.1.1 hS9.1.1 hS.2.1.1 hun rfl
  have hN := RRV.keep hN hS.1.1 hS.2.1.2.1 hun rfl rfl
  have hE := RCP.keep hE hq.2.2 hS.1.1 hS9.1.1 hS.2.1.1 hun rfl
  have hO := RRP.keep hO hS.1.1 hS.2.1.2.1 hun rfl rfl
  have hY := RMM.keep hY hS.2.1.2.1 hun rfl
  have hJ := RYK.keep hJ hS.1.1 hS.2.1.1 hun rfl
  have hS := hS9
  refine lv_pop (pc := 1050) hx hb dL_law_1050 rfl ?_
  refine lv_goto (tgt := 1836) (pc := 1051) hx hb dL_law_1051 rfl ?_
  exact KK _ _ _ _ _ _ q _ _ (by omega) (by omega) hS hq hC hD hE hM hN hO hY hJ hZ (lv_sub hl [0, 1, 2, 3, 4] rfl)

set_option maxHeartbeats 4000000 in
set_option maxRecDepth 100000 in
theorem law_19 {p : Program} {e : Env} {s : State} {m : MethodId} {below : List Frame} {meth : Method} {c : Code} {l : Launch} {b L i C S x0 m0 o0 : Nat} {xs : Nat → Int32} {g : GG} {Γ : Nat → Nat} {H : Heap} {locs : List Loc} {q : RLT} {V : Nat → VV} {P : Nat → PP} {ls : Array Slot} {cells slots : Nat} (X : CTX p l m meth c cL_law 7 s #[Value.ref b] RL g (AL s)) (hr : meth.sig.returnType = ret) (hX : va_X b L xs s s.heap) (hbl : b < s.heap.size) (hL : L ≤ 3072) (hi : i + 6 ≤ L) (hS : LWS g x0 m0 o0 s Γ H locs) (hl : lv_has ls 7 (LO b x0 m0 o0 i)) (hc : cells + 13 ≤ C) (hs : slots + 380 ≤ S) (hcC : C ≤ 601024) (hSl : S ≤ 7293034) (hq : RLW q) (hC : R1c g x0 q H) (hD : RCV g x0 q.2.2.1 V H) (hM : R1m g m0 q H) (hN : RRV g m0 q.2.2.1 V H) (hE : RCP g x0 q.2.2.2 P H) (hO : RRP g m0 q.2.2.2 P H) (hY : RMM g m0 H) (hJ : RYK g x0 H) (hZ : PLX q.2.2.1 V q.2.2.2 P) (KK : LGP p l e s m b below meth c g x0 m0 o0 i C S) : W p l e room_1 s m #[Value.ref b] below meth c H locs cells slots (lw_Z below #[Value.ref b] s) (F0 m 1054 ls []) := by
  have hx := X.1
  have hb := X.2.1
  refine lv_aload_n (pc := 1054) hx hb dL_law_1054 rfl (lv_at hl 1 rfl) ?_
  refine law_rd (pc := 1055) X hX hbl hS hl 1 (by decide) (by decide) hi hL dL_law_1055 dL_law_1056 dL_law_1058 dL_law_1059 dL_law_1060 ?_
  refine law_rd (pc := 1061) X hX hbl hS hl 2 (by decide) (by decide) hi hL dL_law_1061 dL_law_1062 dL_law_1064 dL_law_1065 dL_law_1066 ?_
  refine law_rd (pc := 1067) X hX hbl hS hl 3 (by decide) (by decide) hi hL dL_law_1067 dL_law_1068 dL_law_1070 dL_law_1071 dL_law_1072 ?_
  refine law_callE (pc := 1073) (ci := 11) (As := [.int (xs (i + 1)), .int (xs (i + 2)), .int (xs (i + 3))]) (rs := []) X hS (E11_addedJ (n := q.1) (fb := q.2.1) (np := q.2.2.2) hS.1.2.1 hq.2.1 hS.2.1.1 (xs (i + 1)) (xs (i + 2)) (xs (i + 3))) vL_104 rfl hS.2.1.1 (by decide) rfl ⟨hC, hD, hJ⟩ rfl hl.1 rfl (Nat.le_of_ble_eq_true rfl) ⟨Nat.le_of_ble_eq_true rfl, Nat.le_of_ble_eq_true rfl⟩ ⟨by omega, by omega⟩ dL_law_1073 rfl rfl (fun x9 H locs hp hun hS9 => ?_)
  have hC := RC1.keep hC hS.1.1 hS.2.1.1 hun rfl
  have hM := RR1.keep hM hS.1.1 hS.2.1.2.1 hun rfl
  have hD := RCV.keep hD hq.2.1 hS.1.1 hS9.1.1 hS.2.1.1 hun rfl
  have hN := RRV.keep hN hS.1.1 hS.2.1.2.1 hun rfl rfl
  have hE := RCP.keep hE hq.2.2 hS.1.1 hS9.1.1 hS.2.1.1 hun rfl
  have hO := RRP.keep hO hS.1.1 hS.2.1.2.1 hun rfl rfl
  have hY := RMM.keep hY hS.2.1.2.1 hun rfl
  have hJ := hp
  have hS := hS9
  refine lv_pop (pc := 1076) hx hb dL_law_1076 rfl ?_
  refine lv_aload_n (pc := 1077) hx hb dL_law_1077 rfl (lv_at hl 2 rfl) ?_
  refine law_rd (pc := 1078) X hX hbl hS hl 1 (by decide) (by decide) hi hL dL_law_1078 dL_law_1079 dL_law_1081 dL_law_1082 dL_law_1083 ?_
  refine law_rd (pc := 1084) X hX hbl hS hl 2 (by decide) (by decide) hi hL dL_law_1084 dL_law_1085 dL_law_1087 dL_law_1088 dL_law_1089 ?_
  refine law_rd (pc := 1090) X hX hbl hS hl 3 (by decide) (by decide) hi hL dL_law_1090 dL_law_1091 dL_law_1093 dL_law_1094 dL_law_1095 ?_
  refine law_callE (pc := 1096) (ci := 12) (As := [.int (xs (i + 1)), .int (xs (i + 2)), .int (xs (i + 3))]) (rs := []) X hS (E12_addedM hS.1.2.1 hS.2.1.2.1 (xs (i + 1)) (xs (i + 2)) (xs (i + 3))) vL_107 rfl hS.2.1.2.1 (by decide) rfl hY rfl hl.1 rfl (Nat.le_of_ble_eq_true rfl) ⟨Nat.le_of_ble_eq_true rfl, Nat.le_of_ble_eq_true rfl⟩ ⟨by omega, by omega⟩ dL_law_1096 rfl rfl (fun x9 H locs hp hun hS9 => ?_)
  have hC := RC1.keep hC hS.1.1 hS.2.1.1 hun rfl
  have hM := RR1.keep hM hS.1.1 hS.2.1.2.1 hun rfl
  have hD := RCV.keep hD hq.2.1 hS.1.1 hS9.1.1 hS.2.1.1 hun rfl
  have hN := RRV.keep hN hS.1.1 hS.2.1.2.1 hun rfl rfl
  have hE := RCP.keep hE hq.2.2 hS.1.1 hS9.1.1 hS.2.1.1 hun rfl
  have hO := RRP.keep hO hS.1.1 hS.2.1.2.1 hun rfl rfl
  have hJ := RYK.keep hJ hS.1.1 hS.2.1.1 hun rfl
  have hY := hp
  have hS := hS9
  refine lv_pop (pc := 1099) hx hb dL_law_1099 rfl ?_
  refine lv_goto (tgt := 1836) (pc := 1100) hx hb dL_law_1100 rfl ?_
  exact KK _ _ _ _ _ _ q _ _ (by omega) (by omega) hS hq hC hD hE hM hN hO hY hJ hZ (lv_sub hl [0, 1, 2, 3, 4] rfl)

set_option maxHeartbeats 4000000 in
set_option maxRecDepth 100000 in
theorem law_20 {p : Program} {e : Env} {s : State} {m : MethodId} {below : List Frame} {meth : Method} {c : Code} {l : Launch} {b L i C S x0 m0 o0 : Nat} {xs : Nat → Int32} {g : GG} {Γ : Nat → Nat} {H : Heap} {locs : List Loc} {q : RLT} {V : Nat → VV} {P : Nat → PP} {ls : Array Slot} {cells slots : Nat} (X : CTX p l m meth c cL_law 7 s #[Value.ref b] RL g (AL s)) (hr : meth.sig.returnType = ret) (hX : va_X b L xs s s.heap) (hbl : b < s.heap.size) (hL : L ≤ 3072) (hi : i + 6 ≤ L) (hS : LWS g x0 m0 o0 s Γ H locs) (hl : lv_has ls 7 (LO b x0 m0 o0 i)) (hc : cells + 13 ≤ C) (hs : slots + 380 ≤ S) (hcC : C ≤ 601024) (hSl : S ≤ 7293034) (hq : RLW q) (hC : R1c g x0 q H) (hD : RCV g x0 q.2.2.1 V H) (hM : R1m g m0 q H) (hN : RRV g m0 q.2.2.1 V H) (hE : RCP g x0 q.2.2.2 P H) (hO : RRP g m0 q.2.2.2 P H) (hY : RMM g m0 H) (hJ : RYK g x0 H) (hZ : PLX q.2.2.1 V q.2.2.2 P) (KK : LGP p l e s m b below meth c g x0 m0 o0 i C S) : W p l e room_1 s m #[Value.ref b] below meth c H locs cells slots (lw_Z below #[Value.ref b] s) (F0 m 1103 ls []) := by
  have hx := X.1
  have hb := X.2.1
  refine lv_aload_n (pc := 1103) hx hb dL_law_1103 rfl (lv_at hl 1 rfl) ?_
  refine law_rd (pc := 1104) X hX hbl hS hl 1 (by decide) (by decide) hi hL dL_law_1104 dL_law_1105 dL_law_1107 dL_law_1108 dL_law_1109 ?_
  refine law_rd (pc := 1110) X hX hbl hS hl 2 (by decide) (by decide) hi hL dL_law_1110 dL_law_1111 dL_law_1113 dL_law_1114 dL_law_1115 ?_
  refine law_rd (pc := 1116) X hX hbl hS hl 3 (by decide) (by decide) hi hL dL_law_1116 dL_law_1117 dL_law_1119 dL_law_1120 dL_law_1121 ?_
  refine law_rd (pc := 1122) X hX hbl hS hl 4 (by decide) (by decide) hi hL dL_law_1122 dL_law_1123 dL_law_1125 dL_law_1126 dL_law_1127 ?_
  refine law_callU (pc := 1128) (ci := 11) (As := [.int (xs (i + 1)), .int (xs (i + 2)), .int (xs (i + 3)), .int (xs (i + 4))]) (rs := []) X hS (SX11_shut_0 l g) vL_108 rfl hS.2.1.1 (by decide) rfl ⟨av_ref hS.2.1.1 (by decide), avi_top _, avi_top _, avi_top _, avi_top _, trivial⟩ rfl rfl hl.1 rfl (Nat.le_of_ble_eq_true rfl) ⟨Nat.le_of_ble_eq_true rfl, Nat.le_of_ble_eq_true rfl⟩ ⟨by omega, by omega⟩ dL_law_1128 rfl rfl (fun x9 H locs hun hS9 => ?_)
  have hC := RC1.keep hC hS.1.1 hS.2.1.1 hun rfl
  have hM := RR1.keep hM hS.1.1 hS.2.1.2.1 hun rfl
  have hD := RCV.keep hD hq.2.1 hS.1.1 hS9.1.1 hS.2.1.1 hun rfl
  have hN := RRV.keep hN hS.1.1 hS.2.1.2.1 hun rfl rfl
  have hE := RCP.keep hE hq.2.2 hS.1.1 hS9.1.1 hS.2.1.1 hun rfl
  have hO := RRP.keep hO hS.1.1 hS.2.1.2.1 hun rfl rfl
  have hY := RMM.keep hY hS.2.1.2.1 hun rfl
  have hJ := RYK.keep hJ hS.1.1 hS.2.1.1 hun rfl
  have hS := hS9
  refine lv_pop (pc := 1131) hx hb dL_law_1131 rfl ?_
  refine lv_aload_n (pc := 1132) hx hb dL_law_1132 rfl (lv_at hl 2 rfl) ?_
  refine law_rd (pc := 1133) X hX hbl hS hl 1 (by decide) (by decide) hi hL dL_law_1133 dL_law_1134 dL_law_1136 dL_law_1137 dL_law_1138 ?_
  refine law_rd (pc := 1139) X hX hbl hS hl 2 (by decide) (by decide) hi hL dL_law_1139 dL_law_1140 dL_law_1142 dL_law_1143 dL_law_1144 ?_
  refine law_rd (pc := 1145) X hX hbl hS hl 3 (by decide) (by decide) hi hL dL_law_1145 dL_law_1146 dL_law_1148 dL_law_1149 dL_law_1150 ?_
  refine law_rd (pc := 1151) X hX hbl hS hl 4 (by decide) (by decide) hi hL dL_law_1151 dL_law_1152 dL_law_1154 dL_law_1155 dL_law_1156 ?_
  refine law_callU (pc := 1157) (ci := 12) (As := [.int (xs (i + 1)), .int (xs (i + 2)), .int (xs (i + 3)), .int (xs (i + 4))]) (rs := []) X hS (SX12_shut_0 l g) vL_111 rfl hS.2.1.2.1 (by decide) rfl ⟨av_ref hS.2.1.2.1 (by decide), avi_top _, avi_top _, avi_top _, avi_top _, trivial⟩ rfl rfl hl.1 rfl (Nat.le_of_ble_eq_true rfl) ⟨Nat.le_of_ble_eq_true rfl, Nat.le_of_ble_eq_true rfl⟩ ⟨by omega, by omega⟩ dL_law_1157 rfl rfl (fun x9 H locs hun hS9 => ?_)
  have hC := RC1.keep hC hS.1.1 hS.2.1.1 hun rfl
  have hM := RR1.keep hM hS.1.1 hS.2.1.2.1 hun rfl
  have hD := RCV.keep hD hq.2.1 hS.1.1 hS9.1.1 hS.2.1.1 hun rfl
  have hN := RRV.keep hN hS.1.1 hS.2.1.2.1 hun rfl rfl
  have hE := RCP.keep hE hq.2.2 hS.1.1 hS9.1.1 hS.2.1.1 hun rfl
  have hO := RRP.keep hO hS.1.1 hS.2.1.2.1 hun rfl rfl
  have hY := RMM.keep hY hS.2.1.2.1 hun rfl
  have hJ := RYK.keep hJ hS.1.1 hS.2.1.1 hun rfl
  have hS := hS9
  refine lv_pop (pc := 1160) hx hb dL_law_1160 rfl ?_
  refine lv_goto (tgt := 1836) (pc := 1161) hx hb dL_law_1161 rfl ?_
  exact KK _ _ _ _ _ _ q _ _ (by omega) (by omega) hS hq hC hD hE hM hN hO hY hJ hZ (lv_sub hl [0, 1, 2, 3, 4] rfl)

set_option maxHeartbeats 4000000 in
set_option maxRecDepth 100000 in
theorem law_21 {p : Program} {e : Env} {s : State} {m : MethodId} {below : List Frame} {meth : Method} {c : Code} {l : Launch} {b L i C S x0 m0 o0 : Nat} {xs : Nat → Int32} {g : GG} {Γ : Nat → Nat} {H : Heap} {locs : List Loc} {q : RLT} {V : Nat → VV} {P : Nat → PP} {ls : Array Slot} {cells slots : Nat} (X : CTX p l m meth c cL_law 7 s #[Value.ref b] RL g (AL s)) (hr : meth.sig.returnType = ret) (hX : va_X b L xs s s.heap) (hbl : b < s.heap.size) (hL : L ≤ 3072) (hi : i + 6 ≤ L) (hS : LWS g x0 m0 o0 s Γ H locs) (hl : lv_has ls 7 (LO b x0 m0 o0 i)) (hc : cells + 13 ≤ C) (hs : slots + 380 ≤ S) (hcC : C ≤ 601024) (hSl : S ≤ 7293034) (hq : RLW q) (hC : R1c g x0 q H) (hD : RCV g x0 q.2.2.1 V H) (hM : R1m g m0 q H) (hN : RRV g m0 q.2.2.1 V H) (hE : RCP g x0 q.2.2.2 P H) (hO : RRP g m0 q.2.2.2 P H) (hY : RMM g m0 H) (hJ : RYK g x0 H) (hZ : PLX q.2.2.1 V q.2.2.2 P) (KK : LGP p l e s m b below meth c g x0 m0 o0 i C S) : W p l e room_1 s m #[Value.ref b] below meth c H locs cells slots (lw_Z below #[Value.ref b] s) (F0 m 1164 ls []) := by
  have hx := X.1
  have hb := X.2.1
  refine lv_aload_n (pc := 1164) hx hb dL_law_1164 rfl (lv_at hl 1 rfl) ?_
  refine law_rd (pc := 1165) X hX hbl hS hl 1 (by decide) (by decide) hi hL dL_law_1165 dL_law_1166 dL_law_1168 dL_law_1169 dL_law_1170 ?_
  refine law_callU (pc := 1171) (ci := 11) (As := [.int (xs (i + 1))]) (rs := []) X hS (SX11_fewest_0 l g) vL_112 rfl hS.2.1.1 (by decide) rfl ⟨av_ref hS.2.1.1 (by decide), avi_top _, trivial⟩ rfl rfl hl.1 rfl (Nat.le_of_ble_eq_true rfl) ⟨Nat.le_of_ble_eq_true rfl, Nat.le_of_ble_eq_true rfl⟩ ⟨by omega, by omega⟩ dL_law_1171 rfl rfl (fun x9 H locs hun hS9 => ?_)
  have hC := RC1.keep hC hS.1.1 hS.2.1.1 hun rfl
  have hM := RR1.keep hM hS.1.1 hS.2.1.2.1 hun rfl
  have hD := RCV.keep hD hq.2.1 hS.1.1 hS9.1.1 hS.2.1.1 hun rfl
  have hN := RRV.keep hN hS.1.1 hS.2.1.2.1 hun rfl rfl
  have hE := RCP.keep hE hq.2.2 hS.1.1 hS9.1.1 hS.2.1.1 hun rfl
  have hO := RRP.keep hO hS.1.1 hS.2.1.2.1 hun rfl rfl
  have hY := RMM.keep hY hS.2.1.2.1 hun rfl
  have hJ := RYK.keep hJ hS.1.1 hS.2.1.1 hun rfl
  have hS := hS9
  refine lv_pop (pc := 1174) hx hb dL_law_1174 rfl ?_
  refine lv_aload_n (pc := 1175) hx hb dL_law_1175 rfl (lv_at hl 2 rfl) ?_
  refine law_rd (pc := 1176) X hX hbl hS hl 1 (by decide) (by decide) hi hL dL_law_1176 dL_law_1177 dL_law_1179 dL_law_1180 dL_law_1181 ?_
  refine law_callU (pc := 1182) (ci := 12) (As := [.int (xs (i + 1))]) (rs := []) X hS (SX12_fewest_0 l g) vL_115 rfl hS.2.1.2.1 (by decide) rfl ⟨av_ref hS.2.1.2.1 (by decide), avi_top _, trivial⟩ rfl rfl hl.1 rfl (Nat.le_of_ble_eq_true rfl) ⟨Nat.le_of_ble_eq_true rfl, Nat.le_of_ble_eq_true rfl⟩ ⟨by omega, by omega⟩ dL_law_1182 rfl rfl (fun x9 H locs hun hS9 => ?_)
  have hC := RC1.keep hC hS.1.1 hS.2.1.1 hun rfl
  have hM := RR1.keep hM hS.1.1 hS.2.1.2.1 hun rfl
  have hD := RCV.keep hD hq.2.1 hS.1.1 hS9.1.1 hS.2.1.1 hun rfl
  have hN := RRV.keep hN hS.1.1 hS.2.1.2.1 hun rfl rfl
  have hE := RCP.keep hE hq.2.2 hS.1.1 hS9.1.1 hS.2.1.1 hun rfl
  have hO := RRP.keep hO hS.1.1 hS.2.1.2.1 hun rfl rfl
  have hY := RMM.keep hY hS.2.1.2.1 hun rfl
  have hJ := RYK.keep hJ hS.1.1 hS.2.1.1 hun rfl
  have hS := hS9
  refine lv_pop (pc := 1185) hx hb dL_law_1185 rfl ?_
  refine lv_goto (tgt := 1836) (pc := 1186) hx hb dL_law_1186 rfl ?_
  exact KK _ _ _ _ _ _ q _ _ (by omega) (by omega) hS hq hC hD hE hM hN hO hY hJ hZ (lv_sub hl [0, 1, 2, 3, 4] rfl)

set_option maxHeartbeats 4000000 in
set_option maxRecDepth 100000 in
theorem law_22 {p : Program} {e : Env} {s : State} {m : MethodId} {below : List Frame} {meth : Method} {c : Code} {l : Launch} {b L i C S x0 m0 o0 : Nat} {xs : Nat → Int32} {g : GG} {Γ : Nat → Nat} {H : Heap} {locs : List Loc} {q : RLT} {V : Nat → VV} {P : Nat → PP} {ls : Array Slot} {cells slots : Nat} (X : CTX p l m meth c cL_law 7 s #[Value.ref b] RL g (AL s)) (hr : meth.sig.returnType = ret) (hX : va_X b L xs s s.heap) (hbl : b < s.heap.size) (hL : L ≤ 3072) (hi : i + 6 ≤ L) (hS : LWS g x0 m0 o0 s Γ H locs) (hl : lv_has ls 7 (LO b x0 m0 o0 i)) (hc : cells + 13 ≤ C) (hs : slots + 380 ≤ S) (hcC : C ≤ 601024) (hSl : S ≤ 7293034) (hq : RLW q) (hC : R1c g x0 q H) (hD : RCV g x0 q.2.2.1 V H) (hM : R1m g m0 q H) (hN : RRV g m0 q.2.2.1 V H) (hE : RCP g x0 q.2.2.2 P H) (hO : RRP g m0 q.2.2.2 P H) (hY : RMM g m0 H) (hJ : RYK g x0 H) (hZ : PLX q.2.2.1 V q.2.2.2 P) (KK : LGP p l e s m b below meth c g x0 m0 o0 i C S) : W p l e room_1 s m #[Value.ref b] below meth c H locs cells slots (lw_Z below #[Value.ref b] s) (F0 m 1189 ls []) := by
  have hx := X.1
  have hb := X.2.1
  refine lv_aload_n (pc := 1189) hx hb dL_law_1189 rfl (lv_at hl 1 rfl) ?_
  refine law_rd (pc := 1190) X hX hbl hS hl 1 (by decide) (by decide) hi hL dL_law_1190 dL_law_1191 dL_law_1193 dL_law_1194 dL_law_1195 ?_
  refine law_rd (pc := 1196) X hX hbl hS hl 2 (by decide) (by decide) hi hL dL_law_1196 dL_law_1197 dL_law_1199 dL_law_1200 dL_law_1201 ?_
  refine law_callU (pc := 1202) (ci := 11) (As := [.int (xs (i + 1)), .int (xs (i + 2))]) (rs := []) X hS (SX11_gossip_0 l g) vL_116 rfl hS.2.1.1 (by decide) rfl ⟨av_ref hS.2.1.1 (by decide), avi_top _, avi_top _, trivial⟩ rfl rfl hl.1 rfl (Nat.le_of_ble_eq_true rfl) ⟨Nat.le_of_ble_eq_true rfl, Nat.le_of_ble_eq_true rfl⟩ ⟨by omega, by omega⟩ dL_law_1202 rfl rfl (fun x9 H locs hun hS9 => ?_)
  have hC := RC1.keep hC hS.1.1 hS.2.1.1 hun rfl
  have hM := RR1.keep hM hS.1.1 hS.2.1.2.1 hun rfl
  have hD := RCV.keep hD hq.2.1 hS.1.1 hS9.1.1 hS.2.1.1 hun rfl
  have hN := RRV.keep hN hS.1.1 hS.2.1.2.1 hun rfl rfl
  have hE := RCP.keep hE hq.2.2 hS.1.1 hS9.1.1 hS.2.1.1 hun rfl
  have hO := RRP.keep hO hS.1.1 hS.2.1.2.1 hun rfl rfl
  have hY := RMM.keep hY hS.2.1.2.1 hun rfl
  have hJ := RYK.keep hJ hS.1.1 hS.2.1.1 hun rfl
  have hS := hS9
  refine lv_pop (pc := 1205) hx hb dL_law_1205 rfl ?_
  refine lv_aload_n (pc := 1206) hx hb dL_law_1206 rfl (lv_at hl 2 rfl) ?_
  refine law_rd (pc := 1207) X hX hbl hS hl 1 (by decide) (by decide) hi hL dL_law_1207 dL_law_1208 dL_law_1210 dL_law_1211 dL_law_1212 ?_
  refine law_rd (pc := 1213) X hX hbl hS hl 2 (by decide) (by decide) hi hL dL_law_1213 dL_law_1214 dL_law_1216 dL_law_1217 dL_law_1218 ?_
  refine law_callU (pc := 1219) (ci := 12) (As := [.int (xs (i + 1)), .int (xs (i + 2))]) (rs := []) X hS (SX12_gossip_0 l g) vL_119 rfl hS.2.1.2.1 (by decide) rfl ⟨av_ref hS.2.1.2.1 (by decide), avi_top _, avi_top _, trivial⟩ rfl rfl hl.1 rfl (Nat.le_of_ble_eq_true rfl) ⟨Nat.le_of_ble_eq_true rfl, Nat.le_of_ble_eq_true rfl⟩ ⟨by omega, by omega⟩ dL_law_1219 rfl rfl (fun x9 H locs hun hS9 => ?_)
  have hC := RC1.keep hC hS.1.1 hS.2.1.1 hun rfl
  have hM := RR1.keep hM hS.1.1 hS.2.1.2.1 hun rfl
  have hD := RCV.keep hD hq.2.1 hS.1.1 hS9.1.1 hS.2.1.1 hun rfl
  have hN := RRV.keep hN hS.1.1 hS.2.1.2.1 hun rfl rfl
  have hE := RCP.keep hE hq.2.2 hS.1.1 hS9.1.1 hS.2.1.1 hun rfl
  have hO := RRP.keep hO hS.1.1 hS.2.1.2.1 hun rfl rfl
  have hY := RMM.keep hY hS.2.1.2.1 hun rfl
  have hJ := RYK.keep hJ hS.1.1 hS.2.1.1 hun rfl
  have hS := hS9
  refine lv_pop (pc := 1222) hx hb dL_law_1222 rfl ?_
  refine lv_goto (tgt := 1836) (pc := 1223) hx hb dL_law_1223 rfl ?_
  exact KK _ _ _ _ _ _ q _ _ (by omega) (by omega) hS hq hC hD hE hM hN hO hY hJ hZ (lv_sub hl [0, 1, 2, 3, 4] rfl)

set_option maxHeartbeats 4000000 in
set_option maxRecDepth 100000 in
theorem law_23 {p : Program} {e : Env} {s : State} {m : MethodId} {below : List Frame} {meth : Method} {c : Code} {l : Launch} {b L i C S x0 m0 o0 : Nat} {xs : Nat → Int32} {g : GG} {Γ : Nat → Nat} {H : Heap} {locs : List Loc} {q : RLT} {V : Nat → VV} {P : Nat → PP} {ls : Array Slot} {cells slots : Nat} (X : CTX p l m meth c cL_law 7 s #[Value.ref b] RL g (AL s)) (hr : meth.sig.returnType = ret) (hX : va_X b L xs s s.heap) (hbl : b < s.heap.size) (hL : L ≤ 3072) (hi : i + 6 ≤ L) (hS : LWS g x0 m0 o0 s Γ H locs) (hl : lv_has ls 7 (LO b x0 m0 o0 i)) (hc : cells + 13 ≤ C) (hs : slots + 380 ≤ S) (hcC : C ≤ 601024) (hSl : S ≤ 7293034) (hq : RLW q) (hC : R1c g x0 q H) (hD : RCV g x0 q.2.2.1 V H) (hM : R1m g m0 q H) (hN : RRV g m0 q.2.2.1 V H) (hE : RCP g x0 q.2.2.2 P H) (hO : RRP g m0 q.2.2.2 P H) (hY : RMM g m0 H) (hJ : RYK g x0 H) (hZ : PLX q.2.2.1 V q.2.2.2 P) (KK : LGP p l e s m b below meth c g x0 m0 o0 i C S) : W p l e room_1 s m #[Value.ref b] below meth c H locs cells slots (lw_Z below #[Value.ref b] s) (F0 m 1226 ls []) := by
  have hx := X.1
  have hb := X.2.1
  refine lv_aload_n (pc := 1226) hx hb dL_law_1226 rfl (lv_at hl 1 rfl) ?_
  refine law_rd (pc := 1227) X hX hbl hS hl 1 (by decide) (by decide) hi hL dL_law_1227 dL_law_1228 dL_law_1230 dL_law_1231 dL_law_1232 ?_
  refine law_rd (pc := 1233) X hX hbl hS hl 2 (by decide) (by decide) hi hL dL_law_1233 dL_law_1234 dL_law_1236 dL_law_1237 dL_law_1238 ?_
  refine law_callU (pc := 1239) (ci := 11) (As := [.int (xs (i + 1)), .int (xs (i + 2))]) (rs := []) X hS (SX11_ends_0 l g) vL_120 rfl hS.2.1.1 (by decide) rfl ⟨av_ref hS.2.1.1 (by decide), avi_top _, avi_top _, trivial⟩ rfl rfl hl.1 rfl (Nat.le_of_ble_eq_true rfl) ⟨Nat.le_of_ble_eq_true rfl, Nat.le_of_ble_eq_true rfl⟩ ⟨by omega, by omega⟩ dL_law_1239 rfl rfl (fun x9 H locs hun hS9 => ?_)
  have hC := RC1.keep hC hS.1.1 hS.2.1.1 hun rfl
  have hM := RR1.keep hM hS.1.1 hS.2.1.2.1 hun rfl
  have hD := RCV.keep hD hq.2.1 hS.1.1 hS9.1.1 hS.2.1.1 hun rfl
  have hN := RRV.keep hN hS.1.1 hS.2.1.2.1 hun rfl rfl
  have hE := RCP.keep hE hq.2.2 hS.1.1 hS9.1.1 hS.2.1.1 hun rfl
  have hO := RRP.keep hO hS.1.1 hS.2.1.2.1 hun rfl rfl
  have hY := RMM.keep hY hS.2.1.2.1 hun rfl
  have hJ := RYK.keep hJ hS.1.1 hS.2.1.1 hun rfl
  have hS := hS9
  refine lv_pop (pc := 1242) hx hb dL_law_1242 rfl ?_
  refine lv_aload_n (pc := 1243) hx hb dL_law_1243 rfl (lv_at hl 2 rfl) ?_
  refine law_rd (pc := 1244) X hX hbl hS hl 1 (by decide) (by decide) hi hL dL_law_1244 dL_law_1245 dL_law_1247 dL_law_1248 dL_law_1249 ?_
  refine law_rd (pc := 1250) X hX hbl hS hl 2 (by decide) (by decide) hi hL dL_law_1250 dL_law_1251 dL_law_1253 dL_law_1254 dL_law_1255 ?_
  refine law_callU (pc := 1256) (ci := 12) (As := [.int (xs (i + 1)), .int (xs (i + 2))]) (rs := []) X hS (SX12_ends_0 l g) vL_123 rfl hS.2.1.2.1 (by decide) rfl ⟨av_ref hS.2.1.2.1 (by decide), avi_top _, avi_top _, trivial⟩ rfl rfl hl.1 rfl (Nat.le_of_ble_eq_true rfl) ⟨Nat.le_of_ble_eq_true rfl, Nat.le_of_ble_eq_true rfl⟩ ⟨by omega, by omega⟩ dL_law_1256 rfl rfl (fun x9 H locs hun hS9 => ?_)
  have hC := RC1.keep hC hS.1.1 hS.2.1.1 hun rfl
  have hM := RR1.keep hM hS.1.1 hS.2.1.2.1 hun rfl
  have hD := RCV.keep hD hq.2.1 hS.1.1 hS9.1.1 hS.2.1.1 hun rfl
  have hN := RRV.keep hN hS.1.1 hS.2.1.2.1 hun rfl rfl
  have hE := RCP.keep hE hq.2.2 hS.1.1 hS9.1.1 hS.2.1.1 hun rfl
  have hO := RRP.keep hO hS.1.1 hS.2.1.2.1 hun rfl rfl
  have hY := RMM.keep hY hS.2.1.2.1 hun rfl
  have hJ := RYK.keep hJ hS.1.1 hS.2.1.1 hun rfl
  have hS := hS9
  refine lv_pop (pc := 1259) hx hb dL_law_1259 rfl ?_
  refine lv_goto (tgt := 1836) (pc := 1260) hx hb dL_law_1260 rfl ?_
  exact KK _ _ _ _ _ _ q _ _ (by omega) (by omega) hS hq hC hD hE hM hN hO hY hJ hZ (lv_sub hl [0, 1, 2, 3, 4] rfl)

set_option maxHeartbeats 4000000 in
set_option maxRecDepth 100000 in
theorem law_24 {p : Program} {e : Env} {s : State} {m : MethodId} {below : List Frame} {meth : Method} {c : Code} {l : Launch} {b L i C S x0 m0 o0 : Nat} {xs : Nat → Int32} {g : GG} {Γ : Nat → Nat} {H : Heap} {locs : List Loc} {q : RLT} {V : Nat → VV} {P : Nat → PP} {ls : Array Slot} {cells slots : Nat} (X : CTX p l m meth c cL_law 7 s #[Value.ref b] RL g (AL s)) (hr : meth.sig.returnType = ret) (hX : va_X b L xs s s.heap) (hbl : b < s.heap.size) (hL : L ≤ 3072) (hi : i + 6 ≤ L) (hS : LWS g x0 m0 o0 s Γ H locs) (hl : lv_has ls 7 (LO b x0 m0 o0 i)) (hc : cells + 13 ≤ C) (hs : slots + 380 ≤ S) (hcC : C ≤ 601024) (hSl : S ≤ 7293034) (hq : RLW q) (hC : R1c g x0 q H) (hD : RCV g x0 q.2.2.1 V H) (hM : R1m g m0 q H) (hN : RRV g m0 q.2.2.1 V H) (hE : RCP g x0 q.2.2.2 P H) (hO : RRP g m0 q.2.2.2 P H) (hY : RMM g m0 H) (hJ : RYK g x0 H) (hZ : PLX q.2.2.1 V q.2.2.2 P) (KK : LGP p l e s m b below meth c g x0 m0 o0 i C S) : W p l e room_1 s m #[Value.ref b] below meth c H locs cells slots (lw_Z below #[Value.ref b] s) (F0 m 1263 ls []) := by
  have hx := X.1
  have hb := X.2.1
  refine lv_aload_n (pc := 1263) hx hb dL_law_1263 rfl (lv_at hl 1 rfl) ?_
  refine law_rd (pc := 1264) X hX hbl hS hl 1 (by decide) (by decide) hi hL dL_law_1264 dL_law_1265 dL_law_1267 dL_law_1268 dL_law_1269 ?_
  refine law_rd (pc := 1270) X hX hbl hS hl 2 (by decide) (by decide) hi hL dL_law_1270 dL_law_1271 dL_law_1273 dL_law_1274 dL_law_1275 ?_
  refine law_rd (pc := 1276) X hX hbl hS hl 3 (by decide) (by decide) hi hL dL_law_1276 dL_law_1277 dL_law_1279 dL_law_1280 dL_law_1281 ?_
  refine law_callU (pc := 1282) (ci := 11) (As := [.int (xs (i + 1)), .int (xs (i + 2)), .int (xs (i + 3))]) (rs := []) X hS (SX11_trade_0 l g) vL_124 rfl hS.2.1.1 (by decide) rfl ⟨av_ref hS.2.1.1 (by decide), avi_top _, avi_top _, avi_top _, trivial⟩ rfl rfl hl.1 rfl (Nat.le_of_ble_eq_true rfl) ⟨Nat.le_of_ble_eq_true rfl, Nat.le_of_ble_eq_true rfl⟩ ⟨by omega, by omega⟩ dL_law_1282 rfl rfl (fun x9 H locs hun hS9 => ?_)
  have hC := RC1.keep hC hS.1.1 hS.2.1.1 hun rfl
  have hM := RR1.keep hM hS.1.1 hS.2.1.2.1 hun rfl
  have hD := RCV.keep hD hq.2.1 hS.1.1 hS9.1.1 hS.2.1.1 hun rfl
  have hN := RRV.keep hN hS.1.1 hS.2.1.2.1 hun rfl rfl
  have hE := RCP.keep hE hq.2.2 hS.1.1 hS9.1.1 hS.2.1.1 hun rfl
  have hO := RRP.keep hO hS.1.1 hS.2.1.2.1 hun rfl rfl
  have hY := RMM.keep hY hS.2.1.2.1 hun rfl
  have hJ := RYK.keep hJ hS.1.1 hS.2.1.1 hun rfl
  have hS := hS9
  refine lv_pop (pc := 1285) hx hb dL_law_1285 rfl ?_
  refine lv_aload_n (pc := 1286) hx hb dL_law_1286 rfl (lv_at hl 2 rfl) ?_
  refine law_rd (pc := 1287) X hX hbl hS hl 1 (by decide) (by decide) hi hL dL_law_1287 dL_law_1288 dL_law_1290 dL_law_1291 dL_law_1292 ?_
  refine law_rd (pc := 1293) X hX hbl hS hl 2 (by decide) (by decide) hi hL dL_law_1293 dL_law_1294 dL_law_1296 dL_law_1297 dL_law_1298 ?_
  refine law_rd (pc := 1299) X hX hbl hS hl 3 (by decide) (by decide) hi hL dL_law_1299 dL_law_1300 dL_law_1302 dL_law_1303 dL_law_1304 ?_
  refine law_callU (pc := 1305) (ci := 12) (As := [.int (xs (i + 1)), .int (xs (i + 2)), .int (xs (i + 3))]) (rs := []) X hS (SX12_trade_0 l g) vL_127 rfl hS.2.1.2.1 (by decide) rfl ⟨av_ref hS.2.1.2.1 (by decide), avi_top _, avi_top _, avi_top _, trivial⟩ rfl rfl hl.1 rfl (Nat.le_of_ble_eq_true rfl) ⟨Nat.le_of_ble_eq_true rfl, Nat.le_of_ble_eq_true rfl⟩ ⟨by omega, by omega⟩ dL_law_1305 rfl rfl (fun x9 H locs hun hS9 => ?_)
  have hC := RC1.keep hC hS.1.1 hS.2.1.1 hun rfl
  have hM := RR1.keep hM hS.1.1 hS.2.1.2.1 hun rfl
  have hD := RCV.keep hD hq.2.1 hS.1.1 hS9.1.1 hS.2.1.1 hun rfl
  have hN := RRV.keep hN hS.1.1 hS.2.1.2.1 hun rfl rfl
  have hE := RCP.keep hE hq.2.2 hS.1.1 hS9.1.1 hS.2.1.1 hun rfl
  have hO := RRP.keep hO hS.1.1 hS.2.1.2.1 hun rfl rfl
  have hY := RMM.keep hY hS.2.1.2.1 hun rfl
  have hJ := RYK.keep hJ hS.1.1 hS.2.1.1 hun rfl
  have hS := hS9
  refine lv_pop (pc := 1308) hx hb dL_law_1308 rfl ?_
  refine lv_goto (tgt := 1836) (pc := 1309) hx hb dL_law_1309 rfl ?_
  exact KK _ _ _ _ _ _ q _ _ (by omega) (by omega) hS hq hC hD hE hM hN hO hY hJ hZ (lv_sub hl [0, 1, 2, 3, 4] rfl)

set_option maxHeartbeats 4000000 in
set_option maxRecDepth 100000 in
theorem law_25 {p : Program} {e : Env} {s : State} {m : MethodId} {below : List Frame} {meth : Method} {c : Code} {l : Launch} {b L i C S x0 m0 o0 : Nat} {xs : Nat → Int32} {g : GG} {Γ : Nat → Nat} {H : Heap} {locs : List Loc} {q : RLT} {V : Nat → VV} {P : Nat → PP} {ls : Array Slot} {cells slots : Nat} (X : CTX p l m meth c cL_law 7 s #[Value.ref b] RL g (AL s)) (hr : meth.sig.returnType = ret) (hX : va_X b L xs s s.heap) (hbl : b < s.heap.size) (hL : L ≤ 3072) (hi : i + 6 ≤ L) (hS : LWS g x0 m0 o0 s Γ H locs) (hl : lv_has ls 7 (LO b x0 m0 o0 i)) (hc : cells + 13 ≤ C) (hs : slots + 380 ≤ S) (hcC : C ≤ 601024) (hSl : S ≤ 7293034) (hq : RLW q) (hC : R1c g x0 q H) (hD : RCV g x0 q.2.2.1 V H) (hM : R1m g m0 q H) (hN : RRV g m0 q.2.2.1 V H) (hE : RCP g x0 q.2.2.2 P H) (hO : RRP g m0 q.2.2.2 P H) (hY : RMM g m0 H) (hJ : RYK g x0 H) (hZ : PLX q.2.2.1 V q.2.2.2 P) (KK : LGP p l e s m b below meth c g x0 m0 o0 i C S) : W p l e room_1 s m #[Value.ref b] below meth c H locs cells slots (lw_Z below #[Value.ref b] s) (F0 m 1312 ls []) := by
  have hx := X.1
  have hb := X.2.1
  refine lv_aload_n (pc := 1312) hx hb dL_law_1312 rfl (lv_at hl 1 rfl) ?_
  refine law_rd (pc := 1313) X hX hbl hS hl 1 (by decide) (by decide) hi hL dL_law_1313 dL_law_1314 dL_law_1316 dL_law_1317 dL_law_1318 ?_
  refine law_rd (pc := 1319) X hX hbl hS hl 2 (by decide) (by decide) hi hL dL_law_1319 dL_law_1320 dL_law_1322 dL_law_1323 dL_law_1324 ?_
  refine law_rd (pc := 1325) X hX hbl hS hl 3 (by decide) (by decide) hi hL dL_law_1325 dL_law_1326 dL_law_1328 dL_law_1329 dL_law_1330 ?_
  refine law_callE (pc := 1331) (ci := 11) (As := [.int (xs (i + 1)), .int (xs (i + 2)), .int (xs (i + 3))]) (rs := []) X hS (E11_cardV hS.1.2.1 hq.2.1 hS.2.1.1 (xs (i + 1)) (xs (i + 2)) (xs (i + 3))) vL_128 rfl hS.2.1.1 (by decide) rfl ⟨hC, hD⟩ rfl hl.1 rfl (Nat.le_of_ble_eq_true rfl) ⟨Nat.le_of_ble_eq_true rfl, Nat.le_of_ble_eq_true rfl⟩ ⟨by omega, by omega⟩ dL_law_1331 rfl rfl (fun x9 H locs hp hun hS9 => ?_)
  obtain ⟨hx9, hN9⟩ := hp
  obtain rfl := Value.int.inj hx9
  have hC := RC1.keep hC hS.1.1 hS.2.1.1 hun rfl
  have hM := RR1.keep hM hS.1.1 hS.2.1.2.1 hun rfl
  have hN := RRV.keep hN hS.1.1 hS.2.1.2.1 hun rfl rfl
  have hE := RCP.keep hE hq.2.2 hS.1.1 hS9.1.1 hS.2.1.1 hun rfl
  have hO := RRP.keep hO hS.1.1 hS.2.1.2.1 hun rfl rfl
  have hY := RMM.keep hY hS.2.1.2.1 hun rfl
  have hJ := RYK.keep hJ hS.1.1 hS.2.1.1 hun rfl
  have hD := hN9
  have hS := hS9
  refine lv_pop (pc := 1334) hx hb dL_law_1334 rfl ?_
  refine lv_aload_n (pc := 1335) hx hb dL_law_1335 rfl (lv_at hl 2 rfl) ?_
  refine law_rd (pc := 1336) X hX hbl hS hl 1 (by decide) (by decide) hi hL dL_law_1336 dL_law_1337 dL_law_1339 dL_law_1340 dL_law_1341 ?_
  refine law_rd (pc := 1342) X hX hbl hS hl 2 (by decide) (by decide) hi hL dL_law_1342 dL_law_1343 dL_law_1345 dL_law_1346 dL_law_1347 ?_
  refine law_rd (pc := 1348) X hX hbl hS hl 3 (by decide) (by decide) hi hL dL_law_1348 dL_law_1349 dL_law_1351 dL_law_1352 dL_law_1353 ?_
  refine law_callE (pc := 1354) (ci := 12) (As := [.int (xs (i + 1)), .int (xs (i + 2)), .int (xs (i + 3))]) (rs := []) X hS (E12_cardV hS.1.2.1 hq.2.1 hS.2.1.2.1 (xs (i + 1)) (xs (i + 2)) (xs (i + 3))) vL_131 rfl hS.2.1.2.1 (by decide) rfl ⟨hM, hN⟩ rfl hl.1 rfl (Nat.le_of_ble_eq_true rfl) ⟨Nat.le_of_ble_eq_true rfl, Nat.le_of_ble_eq_true rfl⟩ ⟨by omega, by omega⟩ dL_law_1354 rfl rfl (fun x9 H locs hp hun hS9 => ?_)
  obtain ⟨hx9, hN9⟩ := hp
  obtain rfl := Value.int.inj hx9
  have hC := RC1.keep hC hS.1.1 hS.2.1.1 hun rfl
  have hM := RR1.keep hM hS.1.1 hS.2.1.2.1 hun rfl
  have hD := RCV.keep hD hq.2.1 hS.1.1 hS9.1.1 hS.2.1.1 hun rfl
  have hE := RCP.keep hE hq.2.2 hS.1.1 hS9.1.1 hS.2.1.1 hun rfl
  have hO := RRP.keep hO hS.1.1 hS.2.1.2.1 hun rfl rfl
  have hY := RMM.keep hY hS.2.1.2.1 hun rfl
  have hJ := RYK.keep hJ hS.1.1 hS.2.1.1 hun rfl
  have hN := hN9
  have hS := hS9
  refine lv_pop (pc := 1357) hx hb dL_law_1357 rfl ?_
  refine lv_goto (tgt := 1836) (pc := 1358) hx hb dL_law_1358 rfl ?_
  exact KK _ _ _ _ _ _ q _ _ (by omega) (by omega) hS hq hC hD hE hM hN hO hY hJ (plx_vnew hZ (fun _ => rfl) (fun _ h => h)) (lv_sub hl [0, 1, 2, 3, 4] rfl)

set_option maxHeartbeats 4000000 in
set_option maxRecDepth 100000 in
theorem law_26 {p : Program} {e : Env} {s : State} {m : MethodId} {below : List Frame} {meth : Method} {c : Code} {l : Launch} {b L i C S x0 m0 o0 : Nat} {xs : Nat → Int32} {g : GG} {Γ : Nat → Nat} {H : Heap} {locs : List Loc} {q : RLT} {V : Nat → VV} {P : Nat → PP} {ls : Array Slot} {cells slots : Nat} (X : CTX p l m meth c cL_law 7 s #[Value.ref b] RL g (AL s)) (hr : meth.sig.returnType = ret) (hX : va_X b L xs s s.heap) (hbl : b < s.heap.size) (hL : L ≤ 3072) (hi : i + 6 ≤ L) (hS : LWS g x0 m0 o0 s Γ H locs) (hl : lv_has ls 7 (LO b x0 m0 o0 i)) (hc : cells + 13 ≤ C) (hs : slots + 380 ≤ S) (hcC : C ≤ 601024) (hSl : S ≤ 7293034) (hq : RLW q) (hC : R1c g x0 q H) (hD : RCV g x0 q.2.2.1 V H) (hM : R1m g m0 q H) (hN : RRV g m0 q.2.2.1 V H) (hE : RCP g x0 q.2.2.2 P H) (hO : RRP g m0 q.2.2.2 P H) (hY : RMM g m0 H) (hJ : RYK g x0 H) (hZ : PLX q.2.2.1 V q.2.2.2 P) (KK : LGP p l e s m b below meth c g x0 m0 o0 i C S) : W p l e room_1 s m #[Value.ref b] below meth c H locs cells slots (lw_Z below #[Value.ref b] s) (F0 m 1361 ls []) := by
  have hx := X.1
  have hb := X.2.1
  refine lv_aload_n (pc := 1361) hx hb dL_law_1361 rfl (lv_at hl 1 rfl) ?_
  refine law_rd (pc := 1362) X hX hbl hS hl 1 (by decide) (by decide) hi hL dL_law_1362 dL_law_1363 dL_law_1365 dL_law_1366 dL_law_1367 ?_
  refine law_callE (pc := 1368) (ci := 11) (As := [.int (xs (i + 1))]) (rs := []) X hS (E11_blankV hS.1.2.1 hq.2.1 hS.2.1.1 (xs (i + 1))) vL_132 rfl hS.2.1.1 (by decide) rfl ⟨hC, hD⟩ rfl hl.1 rfl (Nat.le_of_ble_eq_true rfl) ⟨Nat.le_of_ble_eq_true rfl, Nat.le_of_ble_eq_true rfl⟩ ⟨by omega, by omega⟩ dL_law_1368 rfl rfl (fun x9 H locs hp hun hS9 => ?_)
  obtain ⟨hx9, hN9⟩ := hp
  obtain rfl := Value.int.inj hx9
  have hC := RC1.keep hC hS.1.1 hS.2.1.1 hun rfl
  have hM := RR1.keep hM hS.1.1 hS.2.1.2.1 hun rfl
  have hN := RRV.keep hN hS.1.1 hS.2.1.2.1 hun rfl rfl
  have hE := RCP.keep hE hq.2.2 hS.1.1 hS9.1.1 hS.2.1.1 hun rfl
  have hO := RRP.keep hO hS.1.1 hS.2.1.2.1 hun rfl rfl
  have hY := RMM.keep hY hS.2.1.2.1 hun rfl
  have hJ := RYK.keep hJ hS.1.1 hS.2.1.1 hun rfl
  have hD := hN9
  have hS := hS9
  refine lv_pop (pc := 1371) hx hb dL_law_1371 rfl ?_
  refine lv_aload_n (pc := 1372) hx hb dL_law_1372 rfl (lv_at hl 2 rfl) ?_
  refine law_rd (pc := 1373) X hX hbl hS hl 1 (by decide) (by decide) hi hL dL_law_1373 dL_law_1374 dL_law_1376 dL_law_1377 dL_law_1378 ?_
  refine law_callE (pc := 1379) (ci := 12) (As := [.int (xs (i + 1))]) (rs := []) X hS (E12_blankV hS.1.2.1 hq.2.1 hS.2.1.2.1 (xs (i + 1))) vL_135 rfl hS.2.1.2.1 (by decide) rfl ⟨hM, hN⟩ rfl hl.1 rfl (Nat.le_of_ble_eq_true rfl) ⟨Nat.le_of_ble_eq_true rfl, Nat.le_of_ble_eq_true rfl⟩ ⟨by omega, by omega⟩ dL_law_1379 rfl rfl (fun x9 H locs hp hun hS9 => ?_)
  obtain ⟨hx9, hN9⟩ := hp
  obtain rfl := Value.int.inj hx9
  have hC := RC1.keep hC hS.1.1 hS.2.1.1 hun rfl
  have hM := RR1.keep hM hS.1.1 hS.2.1.2.1 hun rfl
  have hD := RCV.keep hD hq.2.1 hS.1.1 hS9.1.1 hS.2.1.1 hun rfl
  have hE := RCP.keep hE hq.2.2 hS.1.1 hS9.1.1 hS.2.1.1 hun rfl
  have hO := RRP.keep hO hS.1.1 hS.2.1.2.1 hun rfl rfl
  have hY := RMM.keep hY hS.2.1.2.1 hun rfl
  have hJ := RYK.keep hJ hS.1.1 hS.2.1.1 hun rfl
  have hN := hN9
  have hS := hS9
  refine lv_pop (pc := 1382) hx hb dL_law_1382 rfl ?_
  refine lv_goto (tgt := 1836) (pc := 1383) hx hb dL_law_1383 rfl ?_
  exact KK _ _ _ _ _ _ q _ _ (by omega) (by omega) hS hq hC hD hE hM hN hO hY hJ (plx_vnew hZ (fun _ => rfl) (fun _ h => h)) (lv_sub hl [0, 1, 2, 3, 4] rfl)

set_option maxHeartbeats 4000000 in
set_option maxRecDepth 100000 in
theorem law_27 {p : Program} {e : Env} {s : State} {m : MethodId} {below : List Frame} {meth : Method} {c : Code} {l : Launch} {b L i C S x0 m0 o0 : Nat} {xs : Nat → Int32} {g : GG} {Γ : Nat → Nat} {H : Heap} {locs : List Loc} {q : RLT} {V : Nat → VV} {P : Nat → PP} {ls : Array Slot} {cells slots : Nat} (X : CTX p l m meth c cL_law 7 s #[Value.ref b] RL g (AL s)) (hr : meth.sig.returnType = ret) (hX : va_X b L xs s s.heap) (hbl : b < s.heap.size) (hL : L ≤ 3072) (hi : i + 6 ≤ L) (hS : LWS g x0 m0 o0 s Γ H locs) (hl : lv_has ls 7 (LO b x0 m0 o0 i)) (hc : cells + 13 ≤ C) (hs : slots + 380 ≤ S) (hcC : C ≤ 601024) (hSl : S ≤ 7293034) (hq : RLW q) (hC : R1c g x0 q H) (hD : RCV g x0 q.2.2.1 V H) (hM : R1m g m0 q H) (hN : RRV g m0 q.2.2.1 V H) (hE : RCP g x0 q.2.2.2 P H) (hO : RRP g m0 q.2.2.2 P H) (hY : RMM g m0 H) (hJ : RYK g x0 H) (hZ : PLX q.2.2.1 V q.2.2.2 P) (KK : LGP p l e s m b below meth c g x0 m0 o0 i C S) : W p l e room_1 s m #[Value.ref b] below meth c H locs cells slots (lw_Z below #[Value.ref b] s) (F0 m 1386 ls []) := by
  have hx := X.1
  have hb := X.2.1
  refine lv_aload_n (pc := 1386) hx hb dL_law_1386 rfl (lv_at hl 1 rfl) ?_
  refine law_rd (pc := 1387) X hX hbl hS hl 1 (by decide) (by decide) hi hL dL_law_1387 dL_law_1388 dL_law_1390 dL_law_1391 dL_law_1392 ?_
  refine law_rd (pc := 1393) X hX hbl hS hl 2 (by decide) (by decide) hi hL dL_law_1393 dL_law_1394 dL_law_1396 dL_law_1397 dL_law_1398 ?_
  refine law_callU (pc := 1399) (ci := 11) (As := [.int (xs (i + 1)), .int (xs (i + 2))]) (rs := []) X hS (SX11_kept_0 l g) vL_136 rfl hS.2.1.1 (by decide) rfl ⟨av_ref hS.2.1.1 (by decide), avi_top _, avi_top _, trivial⟩ rfl rfl hl.1 rfl (Nat.le_of_ble_eq_true rfl) ⟨Nat.le_of_ble_eq_true rfl, Nat.le_of_ble_eq_true rfl⟩ ⟨by omega, by omega⟩ dL_law_1399 rfl rfl (fun x9 H locs hun hS9 => ?_)
  have hC := RC1.keep hC hS.1.1 hS.2.1.1 hun rfl
  have hM := RR1.keep hM hS.1.1 hS.2.1.2.1 hun rfl
  have hD := RCV.keep hD hq.2.1 hS.1.1 hS9.1.1 hS.2.1.1 hun rfl
  have hN := RRV.keep hN hS.1.1 hS.2.1.2.1 hun rfl rfl
  have hE := RCP.keep hE hq.2.2 hS.1.1 hS9.1.1 hS.2.1.1 hun rfl
  have hO := RRP.keep hO hS.1.1 hS.2.1.2.1 hun rfl rfl
  have hY := RMM.keep hY hS.2.1.2.1 hun rfl
  have hJ := RYK.keep hJ hS.1.1 hS.2.1.1 hun rfl
  have hS := hS9
  refine lv_pop (pc := 1402) hx hb dL_law_1402 rfl ?_
  refine lv_aload_n (pc := 1403) hx hb dL_law_1403 rfl (lv_at hl 2 rfl) ?_
  refine law_rd (pc := 1404) X hX hbl hS hl 1 (by decide) (by decide) hi hL dL_law_1404 dL_law_1405 dL_law_1407 dL_law_1408 dL_law_1409 ?_
  refine law_rd (pc := 1410) X hX hbl hS hl 2 (by decide) (by decide) hi hL dL_law_1410 dL_law_1411 dL_law_1413 dL_law_1414 dL_law_1415 ?_
  refine law_callU (pc := 1416) (ci := 12) (As := [.int (xs (i + 1)), .int (xs (i + 2))]) (rs := []) X hS (SX12_kept_h0 l g) vL_139 rfl hS.2.1.2.1 (by decide) rfl ⟨av_ref hS.2.1.2.1 (by decide), avi_top _, avi_top _, trivial⟩ rfl rfl hl.1 rfl (Nat.le_of_ble_eq_true rfl) ⟨Nat.le_of_ble_eq_true rfl, Nat.le_of_ble_eq_true rfl⟩ ⟨by omega, by omega⟩ dL_law_1416 rfl rfl (fun x9 H locs hun hS9 => ?_)
  have hC := RC1.keep hC hS.1.1 hS.2.1.1 hun rfl
  have hM := RR1.keep hM hS.1.1 hS.2.1.2.1 hun rfl
  have hD := RCV.keep hD hq.2.1 hS.1.1 hS9.1.1 hS.2.1.1 hun rfl
  have hN := RRV.keep hN hS.1.1 hS.2.1.2.1 hun rfl rfl
  have hE := RCP.keep hE hq.2.2 hS.1.1 hS9.1.1 hS.2.1.1 hun rfl
  have hO := RRP.keep hO hS.1.1 hS.2.1.2.1 hun rfl rfl
  have hY := RMM.keep hY hS.2.1.2.1 hun rfl
  have hJ := RYK.keep hJ hS.1.1 hS.2.1.1 hun rfl
  have hS := hS9
  refine lv_pop (pc := 1419) hx hb dL_law_1419 rfl ?_
  refine lv_goto (tgt := 1836) (pc := 1420) hx hb dL_law_1420 rfl ?_
  exact KK _ _ _ _ _ _ q _ _ (by omega) (by omega) hS hq hC hD hE hM hN hO hY hJ hZ (lv_sub hl [0, 1, 2, 3, 4] rfl)

set_option maxHeartbeats 4000000 in
set_option maxRecDepth 100000 in
theorem law_28 {p : Program} {e : Env} {s : State} {m : MethodId} {below : List Frame} {meth : Method} {c : Code} {l : Launch} {b L i C S x0 m0 o0 : Nat} {xs : Nat → Int32} {g : GG} {Γ : Nat → Nat} {H : Heap} {locs : List Loc} {q : RLT} {V : Nat → VV} {P : Nat → PP} {ls : Array Slot} {cells slots : Nat} (X : CTX p l m meth c cL_law 7 s #[Value.ref b] RL g (AL s)) (hr : meth.sig.returnType = ret) (hX : va_X b L xs s s.heap) (hbl : b < s.heap.size) (hL : L ≤ 3072) (hi : i + 6 ≤ L) (hS : LWS g x0 m0 o0 s Γ H locs) (hl : lv_has ls 7 (LO b x0 m0 o0 i)) (hc : cells + 13 ≤ C) (hs : slots + 380 ≤ S) (hcC : C ≤ 601024) (hSl : S ≤ 7293034) (hq : RLW q) (hC : R1c g x0 q H) (hD : RCV g x0 q.2.2.1 V H) (hM : R1m g m0 q H) (hN : RRV g m0 q.2.2.1 V H) (hE : RCP g x0 q.2.2.2 P H) (hO : RRP g m0 q.2.2.2 P H) (hY : RMM g m0 H) (hJ : RYK g x0 H) (hZ : PLX q.2.2.1 V q.2.2.2 P) (KK : LGP p l e s m b below meth c g x0 m0 o0 i C S) : W p l e room_1 s m #[Value.ref b] below meth c H locs cells slots (lw_Z below #[Value.ref b] s) (F0 m 1423 ls []) := by
  have hx := X.1
  have hb := X.2.1
  refine lv_aload_n (pc := 1423) hx hb dL_law_1423 rfl (lv_at hl 1 rfl) ?_
  refine law_rd (pc := 1424) X hX hbl hS hl 1 (by decide) (by decide) hi hL dL_law_1424 dL_law_1425 dL_law_1427 dL_law_1428 dL_law_1429 ?_
  refine law_rd (pc := 1430) X hX hbl hS hl 2 (by decide) (by decide) hi hL dL_law_1430 dL_law_1431 dL_law_1433 dL_law_1434 dL_law_1435 ?_
  refine law_rd (pc := 1436) X hX hbl hS hl 3 (by decide) (by decide) hi hL dL_law_1436 dL_law_1437 dL_law_1439 dL_law_1440 dL_law_1441 ?_
  refine law_rd (pc := 1442) X hX hbl hS hl 4 (by decide) (by decide) hi hL dL_law_1442 dL_law_1443 dL_law_1445 dL_law_1446 dL_law_1447 ?_
  refine law_callU (pc := 1448) (ci := 11) (As := [.int (xs (i + 1)), .int (xs (i + 2)), .int (xs (i + 3)), .int (xs (i + 4))]) (rs := []) X hS (SX11_tree_0 l g) vL_140 rfl hS.2.1.1 (by decide) rfl ⟨av_ref hS.2.1.1 (by decide), avi_top _, avi_top _, avi_top _, avi_top _, trivial⟩ rfl rfl hl.1 rfl (Nat.le_of_ble_eq_true rfl) ⟨Nat.le_of_ble_eq_true rfl, Nat.le_of_ble_eq_true rfl⟩ ⟨by omega, by omega⟩ dL_law_1448 rfl rfl (fun x9 H locs hun hS9 => ?_)
  have hC := RC1.keep hC hS.1.1 hS.2.1.1 hun rfl
  have hM := RR1.keep hM hS.1.1 hS.2.1.2.1 hun rfl
  have hD := RCV.keep hD hq.2.1 hS.1.1 hS9.1.1 hS.2.1.1 hun rfl
  have hN := RRV.keep hN hS.1.1 hS.2.1.2.1 hun rfl rfl
  have hE := RCP.keep hE hq.2.2 hS.1.1 hS9.1.1 hS.2.1.1 hun rfl
  have hO := RRP.keep hO hS.1.1 hS.2.1.2.1 hun rfl rfl
  have hY := RMM.keep hY hS.2.1.2.1 hun rfl
  have hJ := RYK.keep hJ hS.1.1 hS.2.1.1 hun rfl
  have hS := hS9
  refine lv_pop (pc := 1451) hx hb dL_law_1451 rfl ?_
  refine lv_aload_n (pc := 1452) hx hb dL_law_1452 rfl (lv_at hl 2 rfl) ?_
  refine law_rd (pc := 1453) X hX hbl hS hl 1 (by decide) (by decide) hi hL dL_law_1453 dL_law_1454 dL_law_1456 dL_law_1457 dL_law_1458 ?_
  refine law_rd (pc := 1459) X hX hbl hS hl 2 (by decide) (by decide) hi hL dL_law_1459 dL_law_1460 dL_law_1462 dL_law_1463 dL_law_1464 ?_
  refine law_rd (pc := 1465) X hX hbl hS hl 3 (by decide) (by decide) hi hL dL_law_1465 dL_law_1466 dL_law_1468 dL_law_1469 dL_law_1470 ?_
  refine law_rd (pc := 1471) X hX hbl hS hl 4 (by decide) (by decide) hi hL dL_law_1471 dL_law_1472 dL_law_1474 dL_law_1475 dL_law_1476 ?_
  refine law_callU (pc := 1477) (ci := 12) (As := [.int (xs (i + 1)), .int (xs (i + 2)), .int (xs (i + 3)), .int (xs (i + 4))]) (rs := []) X hS (SX12_tree_h0 l g) vL_143 rfl hS.2.1.2.1 (by decide) rfl ⟨av_ref hS.2.1.2.1 (by decide), avi_top _, avi_top _, avi_top _, avi_top _, trivial⟩ rfl rfl hl.1 rfl (Nat.le_of_ble_eq_true rfl) ⟨Nat.le_of_ble_eq_true rfl, Nat.le_of_ble_eq_true rfl⟩ ⟨by omega, by omega⟩ dL_law_1477 rfl rfl (fun x9 H locs hun hS9 => ?_)
  have hC := RC1.keep hC hS.1.1 hS.2.1.1 hun rfl
  have hM := RR1.keep hM hS.1.1 hS.2.1.2.1 hun rfl
  have hD := RCV.keep hD hq.2.1 hS.1.1 hS9.1.1 hS.2.1.1 hun rfl
  have hN := RRV.keep hN hS.1.1 hS.2.1.2.1 hun rfl rfl
  have hE := RCP.keep hE hq.2.2 hS.1.1 hS9.1.1 hS.2.1.1 hun rfl
  have hO := RRP.keep hO hS.1.1 hS.2.1.2.1 hun rfl rfl
  have hY := RMM.keep hY hS.2.1.2.1 hun rfl
  have hJ := RYK.keep hJ hS.1.1 hS.2.1.1 hun rfl
  have hS := hS9
  refine lv_pop (pc := 1480) hx hb dL_law_1480 rfl ?_
  refine lv_goto (tgt := 1836) (pc := 1481) hx hb dL_law_1481 rfl ?_
  exact KK _ _ _ _ _ _ q _ _ (by omega) (by omega) hS hq hC hD hE hM hN hO hY hJ hZ (lv_sub hl [0, 1, 2, 3, 4] rfl)

set_option maxHeartbeats 4000000 in
set_option maxRecDepth 100000 in
theorem law_29 {p : Program} {e : Env} {s : State} {m : MethodId} {below : List Frame} {meth : Method} {c : Code} {l : Launch} {b L i C S x0 m0 o0 : Nat} {xs : Nat → Int32} {g : GG} {Γ : Nat → Nat} {H : Heap} {locs : List Loc} {q : RLT} {V : Nat → VV} {P : Nat → PP} {ls : Array Slot} {cells slots : Nat} (X : CTX p l m meth c cL_law 7 s #[Value.ref b] RL g (AL s)) (hr : meth.sig.returnType = ret) (hX : va_X b L xs s s.heap) (hbl : b < s.heap.size) (hL : L ≤ 3072) (hi : i + 6 ≤ L) (hS : LWS g x0 m0 o0 s Γ H locs) (hl : lv_has ls 7 (LO b x0 m0 o0 i)) (hc : cells + 13 ≤ C) (hs : slots + 380 ≤ S) (hcC : C ≤ 601024) (hSl : S ≤ 7293034) (hq : RLW q) (hC : R1c g x0 q H) (hD : RCV g x0 q.2.2.1 V H) (hM : R1m g m0 q H) (hN : RRV g m0 q.2.2.1 V H) (hE : RCP g x0 q.2.2.2 P H) (hO : RRP g m0 q.2.2.2 P H) (hY : RMM g m0 H) (hJ : RYK g x0 H) (hZ : PLX q.2.2.1 V q.2.2.2 P) (KK : LGP p l e s m b below meth c g x0 m0 o0 i C S) : W p l e room_1 s m #[Value.ref b] below meth c H locs cells slots (lw_Z below #[Value.ref b] s) (F0 m 1484 ls []) := by
  have hx := X.1
  have hb := X.2.1
  refine lv_aload_n (pc := 1484) hx hb dL_law_1484 rfl (lv_at hl 1 rfl) ?_
  refine law_rd (pc := 1485) X hX hbl hS hl 1 (by decide) (by decide) hi hL dL_law_1485 dL_law_1486 dL_law_1488 dL_law_1489 dL_law_1490 ?_
  refine law_rd (pc := 1491) X hX hbl hS hl 2 (by decide) (by decide) hi hL dL_law_1491 dL_law_1492 dL_law_1494 dL_law_1495 dL_law_1496 ?_
  refine law_callU (pc := 1497) (ci := 11) (As := [.int (xs (i + 1)), .int (xs (i + 2))]) (rs := []) X hS (SX11_breaks_0 l g) vL_144 rfl hS.2.1.1 (by decide) rfl ⟨av_ref hS.2.1.1 (by decide), avi_top _, avi_top _, trivial⟩ rfl rfl hl.1 rfl (Nat.le_of_ble_eq_true rfl) ⟨Nat.le_of_ble_eq_true rfl, Nat.le_of_ble_eq_true rfl⟩ ⟨by omega, by omega⟩ dL_law_1497 rfl rfl (fun x9 H locs hun hS9 => ?_)
  have hC := RC1.keep hC hS.1.1 hS.2.1.1 hun rfl
  have hM := RR1.keep hM hS.1.1 hS.2.1.2.1 hun rfl
  have hD := RCV.keep hD hq.2.1 hS.1.1 hS9.1.1 hS.2.1.1 hun rfl
  have hN := RRV.keep hN hS.1.1 hS.2.1.2.1 hun rfl rfl
  have hE := RCP.keep hE hq.2.2 hS.1.1 hS9.1.1 hS.2.1.1 hun rfl
  have hO := RRP.keep hO hS.1.1 hS.2.1.2.1 hun rfl rfl
  have hY := RMM.keep hY hS.2.1.2.1 hun rfl
  have hJ := RYK.keep hJ hS.1.1 hS.2.1.1 hun rfl
  have hS := hS9
  refine lv_pop (pc := 1500) hx hb dL_law_1500 rfl ?_
  refine lv_aload_n (pc := 1501) hx hb dL_law_1501 rfl (lv_at hl 2 rfl) ?_
  refine law_rd (pc := 1502) X hX hbl hS hl 1 (by decide) (by decide) hi hL dL_law_1502 dL_law_1503 dL_law_1505 dL_law_1506 dL_law_1507 ?_
  refine law_rd (pc := 1508) X hX hbl hS hl 2 (by decide) (by decide) hi hL dL_law_1508 dL_law_1509 dL_law_1511 dL_law_1512 dL_law_1513 ?_
  refine law_callU (pc := 1514) (ci := 12) (As := [.int (xs (i + 1)), .int (xs (i + 2))]) (rs := []) X hS (SX12_breaks_0 l g) vL_147 rfl hS.2.1.2.1 (by decide) rfl ⟨av_ref hS.2.1.2.1 (by decide), avi_top _, avi_top _, trivial⟩ rfl rfl hl.1 rfl (Nat.le_of_ble_eq_true rfl) ⟨Nat.le_of_ble_eq_true rfl, Nat.le_of_ble_eq_true rfl⟩ ⟨by omega, by omega⟩ dL_law_1514 rfl rfl (fun x9 H locs hun hS9 => ?_)
  have hC := RC1.keep hC hS.1.1 hS.2.1.1 hun rfl
  have hM := RR1.keep hM hS.1.1 hS.2.1.2.1 hun rfl
  have hD := RCV.keep hD hq.2.1 hS.1.1 hS9.1.1 hS.2.1.1 hun rfl
  have hN := RRV.keep hN hS.1.1 hS.2.1.2.1 hun rfl rfl
  have hE := RCP.keep hE hq.2.2 hS.1.1 hS9.1.1 hS.2.1.1 hun rfl
  have hO := RRP.keep hO hS.1.1 hS.2.1.2.1 hun rfl rfl
  have hY := RMM.keep hY hS.2.1.2.1 hun rfl
  have hJ := RYK.keep hJ hS.1.1 hS.2.1.1 hun rfl
  have hS := hS9
  refine lv_pop (pc := 1517) hx hb dL_law_1517 rfl ?_
  refine lv_goto (tgt := 1836) (pc := 1518) hx hb dL_law_1518 rfl ?_
  exact KK _ _ _ _ _ _ q _ _ (by omega) (by omega) hS hq hC hD hE hM hN hO hY hJ hZ (lv_sub hl [0, 1, 2, 3, 4] rfl)

set_option maxHeartbeats 4000000 in
set_option maxRecDepth 100000 in
theorem law_30 {p : Program} {e : Env} {s : State} {m : MethodId} {below : List Frame} {meth : Method} {c : Code} {l : Launch} {b L i C S x0 m0 o0 : Nat} {xs : Nat → Int32} {g : GG} {Γ : Nat → Nat} {H : Heap} {locs : List Loc} {q : RLT} {V : Nat → VV} {P : Nat → PP} {ls : Array Slot} {cells slots : Nat} (X : CTX p l m meth c cL_law 7 s #[Value.ref b] RL g (AL s)) (hr : meth.sig.returnType = ret) (hX : va_X b L xs s s.heap) (hbl : b < s.heap.size) (hL : L ≤ 3072) (hi : i + 6 ≤ L) (hS : LWS g x0 m0 o0 s Γ H locs) (hl : lv_has ls 7 (LO b x0 m0 o0 i)) (hc : cells + 13 ≤ C) (hs : slots + 380 ≤ S) (hcC : C ≤ 601024) (hSl : S ≤ 7293034) (hq : RLW q) (hC : R1c g x0 q H) (hD : RCV g x0 q.2.2.1 V H) (hM : R1m g m0 q H) (hN : RRV g m0 q.2.2.1 V H) (hE : RCP g x0 q.2.2.2 P H) (hO : RRP g m0 q.2.2.2 P H) (hY : RMM g m0 H) (hJ : RYK g x0 H) (hZ : PLX q.2.2.1 V q.2.2.2 P) (KK : LGP p l e s m b below meth c g x0 m0 o0 i C S) : W p l e room_1 s m #[Value.ref b] below meth c H locs cells slots (lw_Z below #[Value.ref b] s) (F0 m 1521 ls []) := by
  have hx := X.1
  have hb := X.2.1
  refine lv_aload_n (pc := 1521) hx hb dL_law_1521 rfl (lv_at hl 1 rfl) ?_
  refine law_rd (pc := 1522) X hX hbl hS hl 1 (by decide) (by decide) hi hL dL_law_1522 dL_law_1523 dL_law_1525 dL_law_1526 dL_law_1527 ?_
  refine law_callU (pc := 1528) (ci := 11) (As := [.int (xs (i + 1))]) (rs := []) X hS (SX11_breaker_0 l g) vL_148 rfl hS.2.1.1 (by decide) rfl ⟨av_ref hS.2.1.1 (by decide), avi_top _, trivial⟩ rfl rfl hl.1 rfl (Nat.le_of_ble_eq_true rfl) ⟨Nat.le_of_ble_eq_true rfl, Nat.le_of_ble_eq_true rfl⟩ ⟨by omega, by omega⟩ dL_law_1528 rfl rfl (fun x9 H locs hun hS9 => ?_)
  have hC := RC1.keep hC hS.1.1 hS.2.1.1 hun rfl
  have hM := RR1.keep hM hS.1.1 hS.2.1.2.1 hun rfl
  have hD := RCV.keep hD hq.2.1 hS.1.1 hS9.1.1 hS.2.1.1 hun rfl
  have hN := RRV.keep hN hS.1.1 hS.2.1.2.1 hun rfl rfl
  have hE := RCP.keep hE hq.2.2 hS.1.1 hS9.1.1 hS.2.1.1 hun rfl
  have hO := RRP.keep hO hS.1.1 hS.2.1.2.1 hun rfl rfl
  have hY := RMM.keep hY hS.2.1.2.1 hun rfl
  have hJ := RYK.keep hJ hS.1.1 hS.2.1.1 hun rfl
  have hS := hS9
  refine lv_pop (pc := 1531) hx hb dL_law_1531 rfl ?_
  refine lv_aload_n (pc := 1532) hx hb dL_law_1532 rfl (lv_at hl 2 rfl) ?_
  refine law_rd (pc := 1533) X hX hbl hS hl 1 (by decide) (by decide) hi hL dL_law_1533 dL_law_1534 dL_law_1536 dL_law_1537 dL_law_1538 ?_
  refine law_callU (pc := 1539) (ci := 12) (As := [.int (xs (i + 1))]) (rs := []) X hS (SX12_breaker_0 l g) vL_151 rfl hS.2.1.2.1 (by decide) rfl ⟨av_ref hS.2.1.2.1 (by decide), avi_top _, trivial⟩ rfl rfl hl.1 rfl (Nat.le_of_ble_eq_true rfl) ⟨Nat.le_of_ble_eq_true rfl, Nat.le_of_ble_eq_true rfl⟩ ⟨by omega, by omega⟩ dL_law_1539 rfl rfl (fun x9 H locs hun hS9 => ?_)
  have hC := RC1.keep hC hS.1.1 hS.2.1.1 hun rfl
  have hM := RR1.keep hM hS.1.1 hS.2.1.2.1 hun rfl
  have hD := RCV.keep hD hq.2.1 hS.1.1 hS9.1.1 hS.2.1.1 hun rfl
  have hN := RRV.keep hN hS.1.1 hS.2.1.2.1 hun rfl rfl
  have hE := RCP.keep hE hq.2.2 hS.1.1 hS9.1.1 hS.2.1.1 hun rfl
  have hO := RRP.keep hO hS.1.1 hS.2.1.2.1 hun rfl rfl
  have hY := RMM.keep hY hS.2.1.2.1 hun rfl
  have hJ := RYK.keep hJ hS.1.1 hS.2.1.1 hun rfl
  have hS := hS9
  refine lv_pop (pc := 1542) hx hb dL_law_1542 rfl ?_
  refine lv_goto (tgt := 1836) (pc := 1543) hx hb dL_law_1543 rfl ?_
  exact KK _ _ _ _ _ _ q _ _ (by omega) (by omega) hS hq hC hD hE hM hN hO hY hJ hZ (lv_sub hl [0, 1, 2, 3, 4] rfl)

set_option maxHeartbeats 4000000 in
set_option maxRecDepth 100000 in
theorem law_31 {p : Program} {e : Env} {s : State} {m : MethodId} {below : List Frame} {meth : Method} {c : Code} {l : Launch} {b L i C S x0 m0 o0 : Nat} {xs : Nat → Int32} {g : GG} {Γ : Nat → Nat} {H : Heap} {locs : List Loc} {q : RLT} {V : Nat → VV} {P : Nat → PP} {ls : Array Slot} {cells slots : Nat} (X : CTX p l m meth c cL_law 7 s #[Value.ref b] RL g (AL s)) (hr : meth.sig.returnType = ret) (hX : va_X b L xs s s.heap) (hbl : b < s.heap.size) (hL : L ≤ 3072) (hi : i + 6 ≤ L) (hS : LWS g x0 m0 o0 s Γ H locs) (hl : lv_has ls 7 (LO b x0 m0 o0 i)) (hc : cells + 13 ≤ C) (hs : slots + 380 ≤ S) (hcC : C ≤ 601024) (hSl : S ≤ 7293034) (hq : RLW q) (hC : R1c g x0 q H) (hD : RCV g x0 q.2.2.1 V H) (hM : R1m g m0 q H) (hN : RRV g m0 q.2.2.1 V H) (hE : RCP g x0 q.2.2.2 P H) (hO : RRP g m0 q.2.2.2 P H) (hY : RMM g m0 H) (hJ : RYK g x0 H) (hZ : PLX q.2.2.1 V q.2.2.2 P) (KK : LGP p l e s m b below meth c g x0 m0 o0 i C S) : W p l e room_1 s m #[Value.ref b] below meth c H locs cells slots (lw_Z below #[Value.ref b] s) (F0 m 1546 ls []) := by
  have hx := X.1
  have hb := X.2.1
  refine lv_aload_n (pc := 1546) hx hb dL_law_1546 rfl (lv_at hl 1 rfl) ?_
  refine law_rd (pc := 1547) X hX hbl hS hl 1 (by decide) (by decide) hi hL dL_law_1547 dL_law_1548 dL_law_1550 dL_law_1551 dL_law_1552 ?_
  refine law_rd (pc := 1553) X hX hbl hS hl 2 (by decide) (by decide) hi hL dL_law_1553 dL_law_1554 dL_law_1556 dL_law_1557 dL_law_1558 ?_
  refine law_rd (pc := 1559) X hX hbl hS hl 3 (by decide) (by decide) hi hL dL_law_1559 dL_law_1560 dL_law_1562 dL_law_1563 dL_law_1564 ?_
  refine law_wretU (pc := 1565) (sp := spW11) (As := [.ref x0, .int (xs (i + 1)), .int (xs (i + 2)), .int (xs (i + 3))]) (w := .long (wv (xs (i + 1)) (xs (i + 2)) (xs (i + 3)))) (fun _ _ _ _ h => ⟨h.1, h.2.2, fun _ _ => h.2.1⟩) (va_runV (As := [.int (xs (i + 1)), .int (xs (i + 2)), .int (xs (i + 3))]) (rest := []) ⟨X.1, X.2.1, X.2.2.1, X.2.2.2.1, X.2.2.2.2.1⟩ (GX11_ways l g x0 m0 (xs (i + 1)) (xs (i + 2)) (xs (i + 3)) Γ H.size hS.1.2.1) (k_cwV X vL_152 ⟨Nat.le_of_ble_eq_true rfl, Nat.le_of_ble_eq_true rfl⟩) ⟨GPRE.blind, f_recv X hS.1 (by rw [hS.2.1.1]; decide) ((congrArg TS0.1 hS.2.1.1).trans rfl) rfl, fun U hU hW => ⟨rfl, law_gpre X hS U hU hW⟩⟩ rfl rfl hl.1 rfl (lv_room (Nat.le_of_ble_eq_true rfl)) dL_law_1565 ⟨Nat.le_trans (show cells + 0 ≤ C by omega) hcC, Nat.le_trans (show slots + 0 ≤ S by omega) hSl⟩) hS (fun H locs hun hS9 => ?_)
  have hC := RC1.keep hC hS.1.1 hS.2.1.1 hun rfl
  have hM := RR1.keep hM hS.1.1 hS.2.1.2.1 hun rfl
  have hD := RCV.keep hD hq.2.1 hS.1.1 hS9.1.1 hS.2.1.1 hun rfl
  have hN := RRV.keep hN hS.1.1 hS.2.1.2.1 hun rfl rfl
  have hE := RCP.keep hE hq.2.2 hS.1.1 hS9.1.1 hS.2.1.1 hun rfl
  have hO := RRP.keep hO hS.1.1 hS.2.1.2.1 hun rfl rfl
  have hY := RMM.keep hY hS.2.1.2.1 hun rfl
  have hJ := RYK.keep hJ hS.1.1 hS.2.1.1 hun rfl
  have hS := hS9
  refine lv_pop2_2 (pc := 1568) hx hb dL_law_1568 rfl ?_
  refine lv_aload_n (pc := 1569) hx hb dL_law_1569 rfl (lv_at hl 2 rfl) ?_
  refine law_rd (pc := 1570) X hX hbl hS hl 1 (by decide) (by decide) hi hL dL_law_1570 dL_law_1571 dL_law_1573 dL_law_1574 dL_law_1575 ?_
  refine law_rd (pc := 1576) X hX hbl hS hl 2 (by decide) (by decide) hi hL dL_law_1576 dL_law_1577 dL_law_1579 dL_law_1580 dL_law_1581 ?_
  refine law_rd (pc := 1582) X hX hbl hS hl 3 (by decide) (by decide) hi hL dL_law_1582 dL_law_1583 dL_law_1585 dL_law_1586 dL_law_1587 ?_
  refine law_wretU (pc := 1588) (sp := spW12) (As := [.ref m0, .int (xs (i + 1)), .int (xs (i + 2)), .int (xs (i + 3))]) (w := .long (wv (xs (i + 1)) (xs (i + 2)) (xs (i + 3)))) (fun _ _ _ _ h => ⟨h.1, h.2, fun hun hLF => hLF.keep hun rfl⟩) (va_runV (As := [.int (xs (i + 1)), .int (xs (i + 2)), .int (xs (i + 3))]) (rest := []) ⟨X.1, X.2.1, X.2.2.1, X.2.2.2.1, X.2.2.2.2.1⟩ (SX12_waysW l g (xs (i + 1)) (xs (i + 2)) (xs (i + 3)) Γ m0 hS.1.2.1 hS.2.1.2.1) (k_cwV X vL_156 ⟨Nat.le_of_ble_eq_true rfl, Nat.le_of_ble_eq_true rfl⟩) ⟨SPRE.blind, f_recv X hS.1 (by rw [hS.2.1.2.1]; decide) ((congrArg TS0.1 hS.2.1.2.1).trans rfl) rfl, fun U hU hW => ⟨rfl, f_pre X hS.1 U hU hW rfl⟩⟩ rfl rfl hl.1 rfl (lv_room (Nat.le_of_ble_eq_true rfl)) dL_law_1588 ⟨Nat.le_trans (show cells + 0 ≤ C by omega) hcC, Nat.le_trans (show slots + 0 ≤ S by omega) hSl⟩) hS (fun H locs hun hS9 => ?_)
  have hC := RC1.keep hC hS.1.1 hS.2.1.1 hun rfl
  have hM := RR1.keep hM hS.1.1 hS.2.1.2.1 hun rfl
  have hD := RCV.keep hD hq.2.1 hS.1.1 hS9.1.1 hS.2.1.1 hun rfl
  have hN := RRV.keep hN hS.1.1 hS.2.1.2.1 hun rfl rfl
  have hE := RCP.keep hE hq.2.2 hS.1.1 hS9.1.1 hS.2.1.1 hun rfl
  have hO := RRP.keep hO hS.1.1 hS.2.1.2.1 hun rfl rfl
  have hY := RMM.keep hY hS.2.1.2.1 hun rfl
  have hJ := RYK.keep hJ hS.1.1 hS.2.1.1 hun rfl
  have hS := hS9
  refine lv_pop2_2 (pc := 1591) hx hb dL_law_1591 rfl ?_
  refine lv_goto (tgt := 1836) (pc := 1592) hx hb dL_law_1592 rfl ?_
  exact KK _ _ _ _ _ _ q _ _ (by omega) (by omega) hS hq hC hD hE hM hN hO hY hJ hZ (lv_sub hl [0, 1, 2, 3, 4] rfl)

set_option maxHeartbeats 4000000 in
set_option maxRecDepth 100000 in
theorem law_32 {p : Program} {e : Env} {s : State} {m : MethodId} {below : List Frame} {meth : Method} {c : Code} {l : Launch} {b L i C S x0 m0 o0 : Nat} {xs : Nat → Int32} {g : GG} {Γ : Nat → Nat} {H : Heap} {locs : List Loc} {q : RLT} {V : Nat → VV} {P : Nat → PP} {ls : Array Slot} {cells slots : Nat} (X : CTX p l m meth c cL_law 7 s #[Value.ref b] RL g (AL s)) (hr : meth.sig.returnType = ret) (hX : va_X b L xs s s.heap) (hbl : b < s.heap.size) (hL : L ≤ 3072) (hi : i + 6 ≤ L) (hS : LWS g x0 m0 o0 s Γ H locs) (hl : lv_has ls 7 (LO b x0 m0 o0 i)) (hc : cells + 13 ≤ C) (hs : slots + 380 ≤ S) (hcC : C ≤ 601024) (hSl : S ≤ 7293034) (hq : RLW q) (hC : R1c g x0 q H) (hD : RCV g x0 q.2.2.1 V H) (hM : R1m g m0 q H) (hN : RRV g m0 q.2.2.1 V H) (hE : RCP g x0 q.2.2.2 P H) (hO : RRP g m0 q.2.2.2 P H) (hY : RMM g m0 H) (hJ : RYK g x0 H) (hZ : PLX q.2.2.1 V q.2.2.2 P) (KK : LGP p l e s m b below meth c g x0 m0 o0 i C S) : W p l e room_1 s m #[Value.ref b] below meth c H locs cells slots (lw_Z below #[Value.ref b] s) (F0 m 1595 ls []) := by
  have hx := X.1
  have hb := X.2.1
  refine lv_aload_n (pc := 1595) hx hb dL_law_1595 rfl (lv_at hl 1 rfl) ?_
  refine law_rd (pc := 1596) X hX hbl hS hl 1 (by decide) (by decide) hi hL dL_law_1596 dL_law_1597 dL_law_1599 dL_law_1600 dL_law_1601 ?_
  refine law_rd (pc := 1602) X hX hbl hS hl 2 (by decide) (by decide) hi hL dL_law_1602 dL_law_1603 dL_law_1605 dL_law_1606 dL_law_1607 ?_
  refine law_rd (pc := 1608) X hX hbl hS hl 3 (by decide) (by decide) hi hL dL_law_1608 dL_law_1609 dL_law_1611 dL_law_1612 dL_law_1613 ?_
  refine lv_i2l (pc := 1614) hx hb dL_law_1614 rfl ?_
  refine lv_bipush (v := 32) (pc := 1615) hx hb dL_law_1615 (by decide) ?_
  refine lv_lshl (v := _) (pc := 1617) hx hb dL_law_1617 rfl ?_
  refine lv_topl (fun v1 ev1 => ?_)
  obtain rfl : v1 = (xs (i + 3)).toInt64 <<< ((32 : Int32).toInt64 &&& 63) := ev1.trans (rfl)
  refine law_rd (pc := 1618) X hX hbl hS hl 4 (by decide) (by decide) hi hL dL_law_1618 dL_law_1619 dL_law_1621 dL_law_1622 dL_law_1623 ?_
  refine lv_i2l (pc := 1624) hx hb dL_law_1624 rfl ?_
  refine lv_ldc2 (pc := 1625) hx hb X.2.2.2.1 (X.2.2.2.2.1 _ m_1802) dL_law_1625 ?_
  refine lv_land (pc := 1628) hx hb dL_law_1628 ?_
  refine lv_lor (pc := 1629) hx hb dL_law_1629 ?_
  refine law_callU (pc := 1630) (ci := 11) (As := [.int (xs (i + 1)), .int (xs (i + 2)), .long (((xs (i + 3)).toInt64 <<< ((32 : Int32).toInt64 &&& 63)) ||| (((xs (i + 4)).toInt64) &&& 4294967295))]) (rs := []) X hS (SX11_drawn_0 l g) vL_159 rfl hS.2.1.1 (by decide) rfl ⟨av_ref hS.2.1.1 (by decide), avi_top _, avi_top _, ⟨rfl, fun h => absurd h (by decide)⟩, trivial⟩ rfl rfl hl.1 rfl (Nat.le_of_ble_eq_true rfl) ⟨Nat.le_of_ble_eq_true rfl, Nat.le_of_ble_eq_true rfl⟩ ⟨by omega, by omega⟩ dL_law_1630 rfl rfl (fun x9 H locs hun hS9 => ?_)
  have hC := RC1.keep hC hS.1.1 hS.2.1.1 hun rfl
  have hM := RR1.keep hM hS.1.1 hS.2.1.2.1 hun rfl
  have hD := RCV.keep hD hq.2.1 hS.1.1 hS9.1.1 hS.2.1.1 hun rfl
  have hN := RRV.keep hN hS.1.1 hS.2.1.2.1 hun rfl rfl
  have hE := RCP.keep hE hq.2.2 hS.1.1 hS9.1.1 hS.2.1.1 hun rfl
  have hO := RRP.keep hO hS.1.1 hS.2.1.2.1 hun rfl rfl
  have hY := RMM.keep hY hS.2.1.2.1 hun rfl
  have hJ := RYK.keep hJ hS.1.1 hS.2.1.1 hun rfl
  have hS := hS9
  refine lv_pop (pc := 1633) hx hb dL_law_1633 rfl ?_
  refine lv_aload_n (pc := 1634) hx hb dL_law_1634 rfl (lv_at hl 2 rfl) ?_
  refine law_rd (pc := 1635) X hX hbl hS hl 1 (by decide) (by decide) hi hL dL_law_1635 dL_law_1636 dL_law_1638 dL_law_1639 dL_law_1640 ?_
  refine law_rd (pc := 1641) X hX hbl hS hl 2 (by decide) (by decide) hi hL dL_law_1641 dL_law_1642 dL_law_1644 dL_law_1645 dL_law_1646 ?_
  refine law_rd (pc := 1647) X hX hbl hS hl 3 (by decide) (by decide) hi hL dL_law_1647 dL_law_1648 dL_law_1650 dL_law_1651 dL_law_1652 ?_
  refine lv_i2l (pc := 1653) hx hb dL_law_1653 rfl ?_
  refine lv_bipush (v := 32) (pc := 1654) hx hb dL_law_1654 (by decide) ?_
  refine lv_lshl (v := _) (pc := 1656) hx hb dL_law_1656 rfl ?_
  refine lv_topl (fun v2 ev2 => ?_)
  obtain rfl : v2 = (xs (i + 3)).toInt64 <<< ((32 : Int32).toInt64 &&& 63) := ev2.trans (rfl)
  refine law_rd (pc := 1657) X hX hbl hS hl 4 (by decide) (by decide) hi hL dL_law_1657 dL_law_1658 dL_law_1660 dL_law_1661 dL_law_1662 ?_
  refine lv_i2l (pc := 1663) hx hb dL_law_1663 rfl ?_
  refine lv_ldc2 (pc := 1664) hx hb X.2.2.2.1 (X.2.2.2.2.1 _ m_1802) dL_law_1664 ?_
  refine lv_land (pc := 1667) hx hb dL_law_1667 ?_
  refine lv_lor (pc := 1668) hx hb dL_law_1668 ?_
  refine law_callU (pc := 1669) (ci := 12) (As := [.int (xs (i + 1)), .int (xs (i + 2)), .long (((xs (i + 3)).toInt64 <<< ((32 : Int32).toInt64 &&& 63)) ||| (((xs (i + 4)).toInt64) &&& 4294967295))]) (rs := []) X hS (SX12_drawn_0 l g) vL_163 rfl hS.2.1.2.1 (by decide) rfl ⟨av_ref hS.2.1.2.1 (by decide), avi_top _, avi_top _, ⟨rfl, fun h => absurd h (by decide)⟩, trivial⟩ rfl rfl hl.1 rfl (Nat.le_of_ble_eq_true rfl) ⟨Nat.le_of_ble_eq_true rfl, Nat.le_of_ble_eq_true rfl⟩ ⟨by omega, by omega⟩ dL_law_1669 rfl rfl (fun x9 H locs hun hS9 => ?_)
  have hC := RC1.keep hC hS.1.1 hS.2.1.1 hun rfl
  have hM := RR1.keep hM hS.1.1 hS.2.1.2.1 hun rfl
  have hD := RCV.keep hD hq.2.1 hS.1.1 hS9.1.1 hS.2.1.1 hun rfl
  have hN := RRV.keep hN hS.1.1 hS.2.1.2.1 hun rfl rfl
  have hE := RCP.keep hE hq.2.2 hS.1.1 hS9.1.1 hS.2.1.1 hun rfl
  have hO := RRP.keep hO hS.1.1 hS.2.1.2.1 hun rfl rfl
  have hY := RMM.keep hY hS.2.1.2.1 hun rfl
  have hJ := RYK.keep hJ hS.1.1 hS.2.1.1 hun rfl
  have hS := hS9
  refine lv_pop (pc := 1672) hx hb dL_law_1672 rfl ?_
  refine lv_goto (tgt := 1836) (pc := 1673) hx hb dL_law_1673 rfl ?_
  exact KK _ _ _ _ _ _ q _ _ (by omega) (by omega) hS hq hC hD hE hM hN hO hY hJ hZ (lv_sub hl [0, 1, 2, 3, 4] rfl)

set_option maxHeartbeats 4000000 in
set_option maxRecDepth 100000 in
theorem law_33 {p : Program} {e : Env} {s : State} {m : MethodId} {below : List Frame} {meth : Method} {c : Code} {l : Launch} {b L i C S x0 m0 o0 : Nat} {xs : Nat → Int32} {g : GG} {Γ : Nat → Nat} {H : Heap} {locs : List Loc} {q : RLT} {V : Nat → VV} {P : Nat → PP} {ls : Array Slot} {cells slots : Nat} (X : CTX p l m meth c cL_law 7 s #[Value.ref b] RL g (AL s)) (hr : meth.sig.returnType = ret) (hX : va_X b L xs s s.heap) (hbl : b < s.heap.size) (hL : L ≤ 3072) (hi : i + 6 ≤ L) (hS : LWS g x0 m0 o0 s Γ H locs) (hl : lv_has ls 7 (LO b x0 m0 o0 i)) (hc : cells + 13 ≤ C) (hs : slots + 380 ≤ S) (hcC : C ≤ 601024) (hSl : S ≤ 7293034) (hq : RLW q) (hC : R1c g x0 q H) (hD : RCV g x0 q.2.2.1 V H) (hM : R1m g m0 q H) (hN : RRV g m0 q.2.2.1 V H) (hE : RCP g x0 q.2.2.2 P H) (hO : RRP g m0 q.2.2.2 P H) (hY : RMM g m0 H) (hJ : RYK g x0 H) (hZ : PLX q.2.2.1 V q.2.2.2 P) (KK : LGP p l e s m b below meth c g x0 m0 o0 i C S) : W p l e room_1 s m #[Value.ref b] below meth c H locs cells slots (lw_Z below #[Value.ref b] s) (F0 m 1676 ls []) := by
  have hx := X.1
  have hb := X.2.1
  refine lv_aload_n (pc := 1676) hx hb dL_law_1676 rfl (lv_at hl 1 rfl) ?_
  refine law_rd (pc := 1677) X hX hbl hS hl 1 (by decide) (by decide) hi hL dL_law_1677 dL_law_1678 dL_law_1680 dL_law_1681 dL_law_1682 ?_
  refine law_rd (pc := 1683) X hX hbl hS hl 2 (by decide) (by decide) hi hL dL_law_1683 dL_law_1684 dL_law_1686 dL_law_1687 dL_law_1688 ?_
  refine law_rd (pc := 1689) X hX hbl hS hl 3 (by decide) (by decide) hi hL dL_law_1689 dL_law_1690 dL_law_1692 dL_law_1693 dL_law_1694 ?_
  refine law_rd (pc := 1695) X hX hbl hS hl 4 (by decide) (by decide) hi hL dL_law_1695 dL_law_1696 dL_law_1698 dL_law_1699 dL_law_1700 ?_
  refine law_callE (pc := 1701) (ci := 11) (As := [.int (xs (i + 1)), .int (xs (i + 2)), .int (xs (i + 3)), .int (xs (i + 4))]) (rs := []) X hS (E11_taleV hS.1.2.1 hq.2.1 hS.2.1.1 (xs (i + 1)) (xs (i + 2)) (xs (i + 3)) (xs (i + 4))) vL_164 rfl hS.2.1.1 (by decide) rfl ⟨hC, hD⟩ rfl hl.1 rfl (Nat.le_of_ble_eq_true rfl) ⟨Nat.le_of_ble_eq_true rfl, Nat.le_of_ble_eq_true rfl⟩ ⟨by omega, by omega⟩ dL_law_1701 rfl rfl (fun x9 H locs hp hun hS9 => ?_)
  obtain ⟨hx9, hN9⟩ := hp
  obtain rfl := Value.int.inj hx9
  have hC := RC1.keep hC hS.1.1 hS.2.1.1 hun rfl
  have hM := RR1.keep hM hS.1.1 hS.2.1.2.1 hun rfl
  have hN := RRV.keep hN hS.1.1 hS.2.1.2.1 hun rfl rfl
  have hE := RCP.keep hE hq.2.2 hS.1.1 hS9.1.1 hS.2.1.1 hun rfl
  have hO := RRP.keep hO hS.1.1 hS.2.1.2.1 hun rfl rfl
  have hY := RMM.keep hY hS.2.1.2.1 hun rfl
  have hJ := RYK.keep hJ hS.1.1 hS.2.1.1 hun rfl
  have hD := hN9
  have hS := hS9
  refine lv_pop (pc := 1704) hx hb dL_law_1704 rfl ?_
  refine lv_aload_n (pc := 1705) hx hb dL_law_1705 rfl (lv_at hl 2 rfl) ?_
  refine law_rd (pc := 1706) X hX hbl hS hl 1 (by decide) (by decide) hi hL dL_law_1706 dL_law_1707 dL_law_1709 dL_law_1710 dL_law_1711 ?_
  refine law_rd (pc := 1712) X hX hbl hS hl 2 (by decide) (by decide) hi hL dL_law_1712 dL_law_1713 dL_law_1715 dL_law_1716 dL_law_1717 ?_
  refine law_rd (pc := 1718) X hX hbl hS hl 3 (by decide) (by decide) hi hL dL_law_1718 dL_law_1719 dL_law_1721 dL_law_1722 dL_law_1723 ?_
  refine law_rd (pc := 1724) X hX hbl hS hl 4 (by decide) (by decide) hi hL dL_law_1724 dL_law_1725 dL_law_1727 dL_law_1728 dL_law_1729 ?_
  refine law_callE (pc := 1730) (ci := 12) (As := [.int (xs (i + 1)), .int (xs (i + 2)), .int (xs (i + 3)), .int (xs (i + 4))]) (rs := []) X hS (E12_taleV hS.1.2.1 hq.2.1 hS.2.1.2.1 (xs (i + 1)) (xs (i + 2)) (xs (i + 3)) (xs (i + 4))) vL_168 rfl hS.2.1.2.1 (by decide) rfl ⟨hM, hN⟩ rfl hl.1 rfl (Nat.le_of_ble_eq_true rfl) ⟨Nat.le_of_ble_eq_true rfl, Nat.le_of_ble_eq_true rfl⟩ ⟨by omega, by omega⟩ dL_law_1730 rfl rfl (fun x9 H locs hp hun hS9 => ?_)
  obtain ⟨hx9, hN9⟩ := hp
  obtain rfl := Value.int.inj hx9
  have hC := RC1.keep hC hS.1.1 hS.2.1.1 hun rfl
  have hM := RR1.keep hM hS.1.1 hS.2.1.2.1 hun rfl
  have hD := RCV.keep hD hq.2.1 hS.1.1 hS9.1.1 hS.2.1.1 hun rfl
  have hE := RCP.keep hE hq.2.2 hS.1.1 hS9.1.1 hS.2.1.1 hun rfl
  have hO := RRP.keep hO hS.1.1 hS.2.1.2.1 hun rfl rfl
  have hY := RMM.keep hY hS.2.1.2.1 hun rfl
  have hJ := RYK.keep hJ hS.1.1 hS.2.1.1 hun rfl
  have hN := hN9
  have hS := hS9
  refine lv_pop (pc := 1733) hx hb dL_law_1733 rfl ?_
  refine lv_goto (tgt := 1836) (pc := 1734) hx hb dL_law_1734 rfl ?_
  exact KK _ _ _ _ _ _ q _ _ (by omega) (by omega) hS hq hC hD hE hM hN hO hY hJ (plx_vnew hZ (fun _ => rfl) (fun _ h => h)) (lv_sub hl [0, 1, 2, 3, 4] rfl)

set_option maxHeartbeats 4000000 in
set_option maxRecDepth 100000 in
theorem law_34 {p : Program} {e : Env} {s : State} {m : MethodId} {below : List Frame} {meth : Method} {c : Code} {l : Launch} {b L i C S x0 m0 o0 : Nat} {xs : Nat → Int32} {g : GG} {Γ : Nat → Nat} {H : Heap} {locs : List Loc} {q : RLT} {V : Nat → VV} {P : Nat → PP} {ls : Array Slot} {cells slots : Nat} (X : CTX p l m meth c cL_law 7 s #[Value.ref b] RL g (AL s)) (hr : meth.sig.returnType = ret) (hX : va_X b L xs s s.heap) (hbl : b < s.heap.size) (hL : L ≤ 3072) (hi : i + 6 ≤ L) (hS : LWS g x0 m0 o0 s Γ H locs) (hl : lv_has ls 7 (LO b x0 m0 o0 i)) (hc : cells + 13 ≤ C) (hs : slots + 380 ≤ S) (hcC : C ≤ 601024) (hSl : S ≤ 7293034) (hq : RLW q) (hC : R1c g x0 q H) (hD : RCV g x0 q.2.2.1 V H) (hM : R1m g m0 q H) (hN : RRV g m0 q.2.2.1 V H) (hE : RCP g x0 q.2.2.2 P H) (hO : RRP g m0 q.2.2.2 P H) (hY : RMM g m0 H) (hJ : RYK g x0 H) (hZ : PLX q.2.2.1 V q.2.2.2 P) (KK : LGP p l e s m b below meth c g x0 m0 o0 i C S) : W p l e room_1 s m #[Value.ref b] below meth c H locs cells slots (lw_Z below #[Value.ref b] s) (F0 m 1737 ls []) := by
  have hx := X.1
  have hb := X.2.1
  refine lv_aload_n (pc := 1737) hx hb dL_law_1737 rfl (lv_at hl 1 rfl) ?_
  refine law_rd (pc := 1738) X hX hbl hS hl 1 (by decide) (by decide) hi hL dL_law_1738 dL_law_1739 dL_law_1741 dL_law_1742 dL_law_1743 ?_
  refine law_rd (pc := 1744) X hX hbl hS hl 2 (by decide) (by decide) hi hL dL_law_1744 dL_law_1745 dL_law_1747 dL_law_1748 dL_law_1749 ?_
  refine law_callE (pc := 1750) (ci := 11) (As := [.int (xs (i + 1)), .int (xs (i + 2))]) (rs := []) X hS (E11_whoK (n := q.1) (fb := q.2.1) (np := q.2.2.2) hS.1.2.1 hq.2.1 hS.2.1.1 (xs (i + 1)) (xs (i + 2))) vL_169 rfl hS.2.1.1 (by decide) rfl ⟨hC, hD, hJ⟩ rfl hl.1 rfl (Nat.le_of_ble_eq_true rfl) ⟨Nat.le_of_ble_eq_true rfl, Nat.le_of_ble_eq_true rfl⟩ ⟨by omega, by omega⟩ dL_law_1750 rfl rfl (fun x9 H locs hp hun hS9 => ?_)
  obtain ⟨hx9, hJ9⟩ := hp
  obtain rfl := Value.int.inj hx9
  have hC := RC1.keep hC hS.1.1 hS.2.1.1 hun rfl
  have hM := RR1.keep hM hS.1.1 hS.2.1.2.1 hun rfl
  have hD := RCV.keep hD hq.2.1 hS.1.1 hS9.1.1 hS.2.1.1 hun rfl
  have hN := RRV.keep hN hS.1.1 hS.2.1.2.1 hun rfl rfl
  have hE := RCP.keep hE hq.2.2 hS.1.1 hS9.1.1 hS.2.1.1 hun rfl
  have hO := RRP.keep hO hS.1.1 hS.2.1.2.1 hun rfl rfl
  have hY := RMM.keep hY hS.2.1.2.1 hun rfl
  have hJ := hJ9
  have hS := hS9
  refine lv_aload_n (pc := 1753) hx hb dL_law_1753 rfl (lv_at hl 2 rfl) ?_
  refine law_rd (pc := 1754) X hX hbl hS hl 1 (by decide) (by decide) hi hL dL_law_1754 dL_law_1755 dL_law_1757 dL_law_1758 dL_law_1759 ?_
  refine law_rd (pc := 1760) X hX hbl hS hl 2 (by decide) (by decide) hi hL dL_law_1760 dL_law_1761 dL_law_1763 dL_law_1764 dL_law_1765 ?_
  refine law_callE (pc := 1766) (ci := 12) (As := [.int (xs (i + 1)), .int (xs (i + 2))]) (rs := [.int (vAns q.2.2.1 V (xs (i + 1)) (-1) (fun w => woA w (xs (i + 2))))]) X hS (E12_whoP (n := q.1) (fb := q.2.1) (np := q.2.2.2) hS.1.2.1 hq.2.1 hS.2.1.2.1 (xs (i + 1)) (xs (i + 2))) vL_172 rfl hS.2.1.2.1 (by decide) rfl ⟨hM, hN, hY⟩ rfl hl.1 rfl (Nat.le_of_ble_eq_true rfl) ⟨Nat.le_of_ble_eq_true rfl, Nat.le_of_ble_eq_true rfl⟩ ⟨by omega, by omega⟩ dL_law_1766 rfl rfl (fun x9 H locs hp hun hS9 => ?_)
  have hx9 := hp
  obtain rfl := Value.int.inj hx9
  have hC := RC1.keep hC hS.1.1 hS.2.1.1 hun rfl
  have hM := RR1.keep hM hS.1.1 hS.2.1.2.1 hun rfl
  have hD := RCV.keep hD hq.2.1 hS.1.1 hS9.1.1 hS.2.1.1 hun rfl
  have hN := RRV.keep hN hS.1.1 hS.2.1.2.1 hun rfl rfl
  have hE := RCP.keep hE hq.2.2 hS.1.1 hS9.1.1 hS.2.1.1 hun rfl
  have hO := RRP.keep hO hS.1.1 hS.2.1.2.1 hun rfl rfl
  have hY := RMM.keep hY hS.2.1.2.1 hun rfl
  have hJ := RYK.keep hJ hS.1.1 hS.2.1.1 hun rfl
  have hS := hS9
  refine lv_icmp_eq (tgt := 1836) (pc := 1769) hx hb dL_law_1769 rfl (fun c1 => ?_) (fun c1 => absurd (rfl : vAns q.2.2.1 V (xs (i + 1)) (-1) (fun w => woA w (xs (i + 2))) = vAns q.2.2.1 V (xs (i + 1)) (-1) (fun w => woA w (xs (i + 2)))) c1)
  exact KK _ _ _ _ _ _ q _ _ (by omega) (by omega) hS hq hC hD hE hM hN hO hY hJ hZ (lv_sub hl [0, 1, 2, 3, 4] rfl)

set_option maxHeartbeats 4000000 in
set_option maxRecDepth 100000 in
theorem law_35 {p : Program} {e : Env} {s : State} {m : MethodId} {below : List Frame} {meth : Method} {c : Code} {l : Launch} {b L i C S x0 m0 o0 : Nat} {xs : Nat → Int32} {g : GG} {Γ : Nat → Nat} {H : Heap} {locs : List Loc} {q : RLT} {V : Nat → VV} {P : Nat → PP} {ls : Array Slot} {cells slots : Nat} (X : CTX p l m meth c cL_law 7 s #[Value.ref b] RL g (AL s)) (hr : meth.sig.returnType = ret) (hX : va_X b L xs s s.heap) (hbl : b < s.heap.size) (hL : L ≤ 3072) (hi : i + 6 ≤ L) (hS : LWS g x0 m0 o0 s Γ H locs) (hl : lv_has ls 7 (LO b x0 m0 o0 i)) (hc : cells + 13 ≤ C) (hs : slots + 380 ≤ S) (hcC : C ≤ 601024) (hSl : S ≤ 7293034) (hq : RLW q) (hC : R1c g x0 q H) (hD : RCV g x0 q.2.2.1 V H) (hM : R1m g m0 q H) (hN : RRV g m0 q.2.2.1 V H) (hE : RCP g x0 q.2.2.2 P H) (hO : RRP g m0 q.2.2.2 P H) (hY : RMM g m0 H) (hJ : RYK g x0 H) (hZ : PLX q.2.2.1 V q.2.2.2 P) (KK : LGP p l e s m b below meth c g x0 m0 o0 i C S) : W p l e room_1 s m #[Value.ref b] below meth c H locs cells slots (lw_Z below #[Value.ref b] s) (F0 m 1774 ls []) := by
  have hx := X.1
  have hb := X.2.1
  refine lv_aload_n (pc := 1774) hx hb dL_law_1774 rfl (lv_at hl 1 rfl) ?_
  refine law_rd (pc := 1775) X hX hbl hS hl 1 (by decide) (by decide) hi hL dL_law_1775 dL_law_1776 dL_law_1778 dL_law_1779 dL_law_1780 ?_
  refine law_rd (pc := 1781) X hX hbl hS hl 2 (by decide) (by decide) hi hL dL_law_1781 dL_law_1782 dL_law_1784 dL_law_1785 dL_law_1786 ?_
  refine law_callU (pc := 1787) (ci := 11) (As := [.int (xs (i + 1)), .int (xs (i + 2))]) (rs := []) X hS (SX11_fits_0 l g) vL_173 rfl hS.2.1.1 (by decide) rfl ⟨av_ref hS.2.1.1 (by decide), avi_top _, avi_top _, trivial⟩ rfl rfl hl.1 rfl (Nat.le_of_ble_eq_true rfl) ⟨Nat.le_of_ble_eq_true rfl, Nat.le_of_ble_eq_true rfl⟩ ⟨by omega, by omega⟩ dL_law_1787 rfl rfl (fun x9 H locs hun hS9 => ?_)
  have hC := RC1.keep hC hS.1.1 hS.2.1.1 hun rfl
  have hM := RR1.keep hM hS.1.1 hS.2.1.2.1 hun rfl
  have hD := RCV.keep hD hq.2.1 hS.1.1 hS9.1.1 hS.2.1.1 hun rfl
  have hN := RRV.keep hN hS.1.1 hS.2.1.2.1 hun rfl rfl
  have hE := RCP.keep hE hq.2.2 hS.1.1 hS9.1.1 hS.2.1.1 hun rfl
  have hO := RRP.keep hO hS.1.1 hS.2.1.2.1 hun rfl rfl
  have hY := RMM.keep hY hS.2.1.2.1 hun rfl
  have hJ := RYK.keep hJ hS.1.1 hS.2.1.1 hun rfl
  have hS := hS9
  refine lv_pop (pc := 1790) hx hb dL_law_1790 rfl ?_
  refine lv_aload_n (pc := 1791) hx hb dL_law_1791 rfl (lv_at hl 2 rfl) ?_
  refine law_rd (pc := 1792) X hX hbl hS hl 1 (by decide) (by decide) hi hL dL_law_1792 dL_law_1793 dL_law_1795 dL_law_1796 dL_law_1797 ?_
  refine law_rd (pc := 1798) X hX hbl hS hl 2 (by decide) (by decide) hi hL dL_law_1798 dL_law_1799 dL_law_1801 dL_law_1802 dL_law_1803 ?_
  refine law_callU (pc := 1804) (ci := 12) (As := [.int (xs (i + 1)), .int (xs (i + 2))]) (rs := []) X hS (SX12_fits_0 l g) vL_176 rfl hS.2.1.2.1 (by decide) rfl ⟨av_ref hS.2.1.2.1 (by decide), avi_top _, avi_top _, trivial⟩ rfl rfl hl.1 rfl (Nat.le_of_ble_eq_true rfl) ⟨Nat.le_of_ble_eq_true rfl, Nat.le_of_ble_eq_true rfl⟩ ⟨by omega, by omega⟩ dL_law_1804 rfl rfl (fun x9 H locs hun hS9 => ?_)
  have hC := RC1.keep hC hS.1.1 hS.2.1.1 hun rfl
  have hM := RR1.keep hM hS.1.1 hS.2.1.2.1 hun rfl
  have hD := RCV.keep hD hq.2.1 hS.1.1 hS9.1.1 hS.2.1.1 hun rfl
  have hN := RRV.keep hN hS.1.1 hS.2.1.2.1 hun rfl rfl
  have hE := RCP.keep hE hq.2.2 hS.1.1 hS9.1.1 hS.2.1.1 hun rfl
  have hO := RRP.keep hO hS.1.1 hS.2.1.2.1 hun rfl rfl
  have hY := RMM.keep hY hS.2.1.2.1 hun rfl
  have hJ := RYK.keep hJ hS.1.1 hS.2.1.1 hun rfl
  have hS := hS9
  refine lv_pop (pc := 1807) hx hb dL_law_1807 rfl ?_
  refine lv_goto (tgt := 1836) (pc := 1808) hx hb dL_law_1808 rfl ?_
  exact KK _ _ _ _ _ _ q _ _ (by omega) (by omega) hS hq hC hD hE hM hN hO hY hJ hZ (lv_sub hl [0, 1, 2, 3, 4] rfl)

set_option maxHeartbeats 4000000 in
set_option maxRecDepth 100000 in
theorem law_36 {p : Program} {e : Env} {s : State} {m : MethodId} {below : List Frame} {meth : Method} {c : Code} {l : Launch} {b L i C S x0 m0 o0 : Nat} {xs : Nat → Int32} {g : GG} {Γ : Nat → Nat} {H : Heap} {locs : List Loc} {q : RLT} {V : Nat → VV} {P : Nat → PP} {ls : Array Slot} {cells slots : Nat} (X : CTX p l m meth c cL_law 7 s #[Value.ref b] RL g (AL s)) (hr : meth.sig.returnType = ret) (hX : va_X b L xs s s.heap) (hbl : b < s.heap.size) (hL : L ≤ 3072) (hi : i + 6 ≤ L) (hS : LWS g x0 m0 o0 s Γ H locs) (hl : lv_has ls 7 (LO b x0 m0 o0 i)) (hc : cells + 13 ≤ C) (hs : slots + 380 ≤ S) (hcC : C ≤ 601024) (hSl : S ≤ 7293034) (hq : RLW q) (hC : R1c g x0 q H) (hD : RCV g x0 q.2.2.1 V H) (hM : R1m g m0 q H) (hN : RRV g m0 q.2.2.1 V H) (hE : RCP g x0 q.2.2.2 P H) (hO : RRP g m0 q.2.2.2 P H) (hY : RMM g m0 H) (hJ : RYK g x0 H) (hZ : PLX q.2.2.1 V q.2.2.2 P) (KK : LGP p l e s m b below meth c g x0 m0 o0 i C S) : W p l e room_1 s m #[Value.ref b] below meth c H locs cells slots (lw_Z below #[Value.ref b] s) (F0 m 1811 ls []) := by
  have hx := X.1
  have hb := X.2.1
  refine lv_aload_n (pc := 1811) hx hb dL_law_1811 rfl (lv_at hl 1 rfl) ?_
  refine law_rd (pc := 1812) X hX hbl hS hl 1 (by decide) (by decide) hi hL dL_law_1812 dL_law_1813 dL_law_1815 dL_law_1816 dL_law_1817 ?_
  refine law_callU (pc := 1818) (ci := 11) (As := [.int (xs (i + 1))]) (rs := []) X hS (SX11_count_0 l g) vL_177 rfl hS.2.1.1 (by decide) rfl ⟨av_ref hS.2.1.1 (by decide), avi_top _, trivial⟩ rfl rfl hl.1 rfl (Nat.le_of_ble_eq_true rfl) ⟨Nat.le_of_ble_eq_true rfl, Nat.le_of_ble_eq_true rfl⟩ ⟨by omega, by omega⟩ dL_law_1818 rfl rfl (fun x9 H locs hun hS9 => ?_)
  have hC := RC1.keep hC hS.1.1 hS.2.1.1 hun rfl
  have hM := RR1.keep hM hS.1.1 hS.2.1.2.1 hun rfl
  have hD := RCV.keep hD hq.2.1 hS.1.1 hS9.1.1 hS.2.1.1 hun rfl
  have hN := RRV.keep hN hS.1.1 hS.2.1.2.1 hun rfl rfl
  have hE := RCP.keep hE hq.2.2 hS.1.1 hS9.1.1 hS.2.1.1 hun rfl
  have hO := RRP.keep hO hS.1.1 hS.2.1.2.1 hun rfl rfl
  have hY := RMM.keep hY hS.2.1.2.1 hun rfl
  have hJ := RYK.keep hJ hS.1.1 hS.2.1.1 hun rfl
  have hS := hS9
  refine lv_pop (pc := 1821) hx hb dL_law_1821 rfl ?_
  refine lv_aload_n (pc := 1822) hx hb dL_law_1822 rfl (lv_at hl 2 rfl) ?_
  refine law_rd (pc := 1823) X hX hbl hS hl 1 (by decide) (by decide) hi hL dL_law_1823 dL_law_1824 dL_law_1826 dL_law_1827 dL_law_1828 ?_
  refine law_callU (pc := 1829) (ci := 12) (As := [.int (xs (i + 1))]) (rs := []) X hS (SX12_count_0 l g) vL_180 rfl hS.2.1.2.1 (by decide) rfl ⟨av_ref hS.2.1.2.1 (by decide), avi_top _, trivial⟩ rfl rfl hl.1 rfl (Nat.le_of_ble_eq_true rfl) ⟨Nat.le_of_ble_eq_true rfl, Nat.le_of_ble_eq_true rfl⟩ ⟨by omega, by omega⟩ dL_law_1829 rfl rfl (fun x9 H locs hun hS9 => ?_)
  have hC := RC1.keep hC hS.1.1 hS.2.1.1 hun rfl
  have hM := RR1.keep hM hS.1.1 hS.2.1.2.1 hun rfl
  have hD := RCV.keep hD hq.2.1 hS.1.1 hS9.1.1 hS.2.1.1 hun rfl
  have hN := RRV.keep hN hS.1.1 hS.2.1.2.1 hun rfl rfl
  have hE := RCP.keep hE hq.2.2 hS.1.1 hS9.1.1 hS.2.1.1 hun rfl
  have hO := RRP.keep hO hS.1.1 hS.2.1.2.1 hun rfl rfl
  have hY := RMM.keep hY hS.2.1.2.1 hun rfl
  have hJ := RYK.keep hJ hS.1.1 hS.2.1.1 hun rfl
  have hS := hS9
  refine lv_pop (pc := 1832) hx hb dL_law_1832 rfl ?_
  refine lv_goto (tgt := 1836) (pc := 1833) hx hb dL_law_1833 rfl ?_
  exact KK _ _ _ _ _ _ q _ _ (by omega) (by omega) hS hq hC hD hE hM hN hO hY hJ hZ (lv_sub hl [0, 1, 2, 3, 4] rfl)

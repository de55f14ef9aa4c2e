/-! told by hand -/

noncomputable def pX8_read_h0 : SPEC := (8, [vr 2, vr 13], vj (-1) 400, [], [(2, 2), (13, 0), (13, 1), (13, 2), (110, 0), (111, 0), (112, 0), (113, 0)], [])
theorem SX8_read_h0 (l : Launch) (g : GG) : SM l g TS0 yX8_read cX8_read 2 (some .int) pX8_read_h0 := sorry
noncomputable def pX3_fewestCalls_h0 : SPEC := (15, [vr 9, vr 3], vj (-1) 7, [], [(3, 14), (9, 0), (9, 1), (30, 0), (48, 0)], [])
theorem SX3_fewestCalls_h0 (l : Launch) (g : GG) : SM l g TS0 yX3_fewestCalls cX3_fewestCalls 2 (some .int) pX3_fewestCalls_h0 := sorry
noncomputable def pX12_readValley_h0 : SPEC := (8, [vr 60], vi 0 1, [], [(60, 3), (60, 4), (60, 5), (62, 0), (63, 0), (64, 0), (65, 0), (66, 0), (67, 0), (68, 0), (69, 0), (120, 0), (121, 0), (122, 0), (123, 0)], [])
theorem SX12_readValley_h0 (l : Launch) (g : GG) : SM l g TS0 yX12_readValley cX12_readValley 3 (some .boolean) pX12_readValley_h0 := sorry
noncomputable def pX12_fewestOf_h0 : SPEC := (20, [vr 60, vi 0 9], vj (-1) 15, [], [(83, 0), (84, 0), (85, 0)], [])
theorem SX12_fewestOf_h0 (l : Launch) (g : GG) : SM l g TS0 yX12_fewestOf cX12_fewestOf 4 (some .int) pX12_fewestOf_h0 := sorry
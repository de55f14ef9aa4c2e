/-! told by hand -/

noncomputable def pX10_setDown_h0 : SPEC := (6, [vr 3, vi 0 11, vj (-1) 24], vk 7, [], [(25, 0), (26, 0)], [])
theorem SX10_setDown_h0 (l : Launch) (g : GG) : SM l g TS0 yX10_setDown cX10_setDown 3 none pX10_setDown_h0 := sorry
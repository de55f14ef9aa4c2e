/-! fits: tales against what is known -/
/-! the answer -/

/-! breaker: the lowest one without whom not all that must come comes -/

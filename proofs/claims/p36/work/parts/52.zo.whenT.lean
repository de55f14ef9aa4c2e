/-! when: the first hour of its kind -/

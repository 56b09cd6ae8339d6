/-! faults and clearing: what is left of the texts -/

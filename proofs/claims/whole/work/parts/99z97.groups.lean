/-! THE START: the search's groups -/
theorem xi2_groups : ((List.range 1024).all fun k => decide (xI xg2 83 k = 0)) = true := by decide +kernel

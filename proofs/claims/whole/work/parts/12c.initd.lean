theorem xi2_rounds0 : ((List.range 1024).all fun k => decide (xI xg2 84 (0 + k) = 0)) = true := by decide +kernel

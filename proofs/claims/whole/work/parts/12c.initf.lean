theorem xi2_rounds2 : ((List.range 1024).all fun k => decide (xI xg2 84 (2048 + k) = 0)) = true := by decide +kernel

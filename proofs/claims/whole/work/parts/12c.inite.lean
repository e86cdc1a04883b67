theorem xi2_rounds1 : ((List.range 1024).all fun k => decide (xI xg2 84 (1024 + k) = 0)) = true := by decide +kernel
